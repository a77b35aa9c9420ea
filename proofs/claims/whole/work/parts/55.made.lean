/-! 55.made: the class's plan made, and what it then tells -/
theorem cs_ne {t e c e' c' : Nat} (hc : c < cs t) (hc' : c' < cs t) (h : ¬ (e = e' ∧ c = c')) : e * cs t + c ≠ e' * cs t + c' := by
  unfold cs at *
  split at hc <;> simp_all <;> omega
theorem cs_lt {t e c : Nat} (hc : c < cs t) (he : e < 16) : e * cs t + c < 16 * cs t := by
  have : (e + 1) * cs t ≤ 16 * cs t := Nat.mul_le_mul_right _ (by omega)
  rw [Nat.add_mul] at this
  omega
def c0 (D : HD) (t : Nat) : Nat := if t = 2 then D.ten.toNat else 0
theorem c0_lt {D : HD} (hD : WFD D) (t : Nat) : c0 D t < cs t := by
  have := hD.tb
  unfold c0 cs
  split <;> omega
def PMade (D : HD) (set : Nat → Int) (k t th p : Nat) (h : AH) : Prop := gI h p 7 = zi D.ten ∧ gL h p 8 = zl (pV D set k t th D.N (c0 D t) 0) ∧ (∀ e c n, e < D.N → c < cs t → n ≤ 16 + e → mB (gL h (p + 4) (e * cs t + c)) n = pGo D set k t th (D.N - 1 - e) c n)
theorem PMade.fr {D : HD} {set : Nat → Int} {k t th p : Nat} {h h' : AH} {S : Nat → Nat → Prop} (x : PMade D set k t th p h) (f : Fr S h h') (n1 : ¬ S p 7) (n2 : ¬ S p 8) (n3 : ∀ j, ¬ S (p + 4) j) : PMade D set k t th p h' := ⟨(f.i n1).trans x.1, (f.l n2).trans x.2.1, fun e c n he hc hn => by rw [f.l (n3 _)]; exact x.2.2 e c n he hc hn⟩
theorem PK.fr {t p : Nat} {h h' : AH} {S : Nat → Nat → Prop} (x : PK t p h) (f : Fr S h h') (n0 : ¬ S p 0) (n1 : ¬ S p 1) : PK t p h' := ⟨(f.i n0).trans x.1, (f.i n1).trans x.2⟩
theorem c_left {t p : Nat} {h : AH} (hp : PL t p) (pk : PK t p h) {L : Int} (hL : gI h p 7 = zi L) {n : Int} {a : Int32} (ha : a = zi n) : s_X2_leftOfTen p a h = some (zi (if t = 2 then L - n else 0)) := by
  have ht5 := hp.t
  unfold s_X2_leftOfTen
  rw [if_pos hp.l0, pk.1, hL, ha]
  by_cases ht2 : t = 2
  · rw [if_pos (by rw [ht2]; rfl), if_pos ht2, zi_sub]
  · rw [if_neg (by rw [(show (2 : Int32) = zi 2 from zi_lit 2), zi_eq (by omega) (by omega) (by omega) (by omega)]; show ¬ (t : Int) = 2; omega), if_neg ht2]
    rfl
section
variable {D : HD} {T : Nat} {h : AH} {set : Nat → Int} {t p k th : Nat}
theorem c_make81 (hD : WFD D) (hT : TL T) (hp : PL t p) (x : CH D T h) (pk : PK t p h) {i e : Nat} (hk : k < D.K) (hth : th = 1 ∨ th = 2) (he : e + 1 + i = D.N) (hm : t ≠ 2 → ∀ c, dM t set e c = true)
    {a1 a2 p3 p7 : Int32} {p4 : Option Nat} (h1 : a1 = zi k) (h2 : a2 = zi e) (h7 : p7 = zi (dC D k e th))
    (ha : ∀ c n, c < cs t → n ≤ 17 + e → gL h (p + 5) (33 * c + n) = zl (pV D set k t th i c n)) (hg : ∀ c, c < cs t → gL h (p + 4) (e * cs t + c) = 0) :
    zw (lpH (l_X2_make_81 p T a1 p3 p4 a2 1 p7) FU ((gI h p 1) - 1) h) (fun r => Fr (fun a j => (a = p + 5) ∨ (a = p + 4 ∧ ∃ c, c < cs t ∧ j = e * cs t + c)) h r.2 ∧ (∀ c n, c < cs t → n ≤ 16 + e → gL r.2 (p + 5) (33 * c + n) = zl (pV D set k t th (i + 1) c n)) ∧ (∀ c n, c < cs t → n ≤ 16 + e → mB (gL r.2 (p + 4) (e * cs t + c)) n = pGo D set k t th i c n)) := by
  have hN := hD.N16
  have hcs := cs_le t
  have bT := hT.b
  have bp := hp.b
  subst h1 h2 h7
  refine zw_for (cs t) (fun j => zi ((cs t : Int) - 1 - j)) () (fun j h' => Fr (fun a q => (a = p + 5) ∨ (a = p + 4 ∧ ∃ c, c < cs t ∧ q = e * cs t + c)) h h' ∧ (∀ c n, c < cs t - j → n ≤ 17 + e → gL h' (p + 5) (33 * c + n) = zl (pV D set k t th i c n)) ∧ (∀ c, c < cs t - j → gL h' (p + 4) (e * cs t + c) = 0) ∧ (∀ c n, cs t - j ≤ c → c < cs t → n ≤ 16 + e → gL h' (p + 5) (33 * c + n) = zl (pV D set k t th (i + 1) c n)) ∧ (∀ c n, cs t - j ≤ c → c < cs t → n ≤ 16 + e → mB (gL h' (p + 4) (e * cs t + c)) n = pGo D set k t th i c n)) (by omega) ?_ ⟨Fr.refl _ _, fun c n hc => ha c n (by omega), fun c hc => hg c (by omega), fun c n h1 h2 => by omega, fun c n h1 h2 => by omega⟩ ?_ ?_
  · rw [pk.2]
    exact (by first | (simp only [zi_lit, zi_neg, zi_add, zi_sub, zi_mul, zl_lit, zl_neg, zl_add, zl_sub, zl_mul, zl_i]; exact congrArg zi (by omega)) | (simp only [zi_lit, zi_neg, zi_add, zi_sub, zi_mul, zl_lit, zl_neg, zl_add, zl_sub, zl_mul, zl_i]; done) | exact congrArg zi (by omega))
  · rintro j h' hj ⟨hf, hlo, hz, hv, hb⟩
    unfold l_X2_make_81
    refine zw_f (by rw [(show (0 : Int32) = zi 0 from zi_lit 0), zi_lt (by omega) (by omega) (by omega) (by omega)]; show ¬ (cs t : Int) - 1 - j < 0; omega) (zw_f (by decide) ?_)
    have hc : cs t - 1 - j < cs t := by omega
    refine zw_bd (c_weigh (set := set) (i := i) (e := e) (c := cs t - 1 - j) hD hT hp (x.fr hf (by intro a q; omega)) (pk.fr hf (by omega) (by omega)) hk hth he hc (fun q => hm q _) rfl rfl (congrArg zi (by omega)) rfl (fun c' n h1 h2 => hlo c' n (by omega) h2) (hz _ (by omega))) ?_
    rintro ⟨u, h2⟩ ⟨hf2, hv2, hb2⟩
    dsimp only at hf2 hv2 hb2 ⊢
    refine zw_some ⟨?_, hf.trans (hf2.mono ?_), fun c n h1 h2 => ?_, fun c h1 => ?_, fun c n h1 h2 h3 => ?_, fun c n h1 h2 h3 => ?_⟩
    · refine congrArg Sum.inl ?_
      simp only [zi_lit, zi_neg, zi_add, zi_sub, zi_mul, zl_lit, zl_neg, zl_add, zl_sub, zl_mul, zl_i]
      exact congrArg zi (by omega)
    · rintro a q (⟨rfl, -, -⟩ | ⟨rfl, rfl⟩)
      · exact Or.inl rfl
      · exact Or.inr ⟨rfl, _, hc, rfl⟩
    · rw [hf2.l (by omega)]
      exact hlo c n (by omega) h2
    · have := cs_ne (t := t) (e := e) (e' := e) (c := c) (c' := cs t - 1 - j) (by omega) hc (by omega)
      rw [hf2.l (by omega)]
      exact hz c (by omega)
    · by_cases hcj : c = cs t - 1 - j
      · subst hcj
        exact hv2 n h3
      · rw [hf2.l (by omega)]
        exact hv c n (by omega) h2 h3
    · by_cases hcj : c = cs t - 1 - j
      · subst hcj
        exact hb2 n h3
      · have := cs_ne (t := t) (e := e) (e' := e) (c := c) (c' := cs t - 1 - j) (by omega) hc (by omega)
        rw [hf2.l (by omega)]
        exact hb c n (by omega) h2 h3
  · rintro h' ⟨hf, hlo, hz, hv, hb⟩
    unfold l_X2_make_81
    refine zw_t (by rw [(show (0 : Int32) = zi 0 from zi_lit 0), zi_lt (by omega) (by omega) (by omega) (by omega)]; show (cs t : Int) - 1 - (cs t : Nat) < 0; omega) ?_
    exact zw_some ⟨rfl, hf, fun c n h1 h2 => hv c n (by omega) h1 h2, fun c n h1 h2 => hb c n (by omega) h1 h2⟩
theorem c_make (hD : WFD D) (hT : TL T) (hp : PL t p) (x : CH D T h) (pk : PK t p h) (hk : k < D.K) {a1 a2 : Int32} (h1 : a1 = zi k) (h2 : (th = 1 ∧ a2 = 0) ∨ (th = 2 ∧ a2 = 1)) {sa : Nat} (hsa : LAY sa = (1, 16)) (hsb : sa < p ∨ p + 5 < sa) (hset : ∀ e, e < D.N → gI h sa e = zi (set e)) (h01 : ∀ e, e < D.N → set e = 0 ∨ set e = 1) :
    zw (s_X2_make p (some T) a1 a2 (some sa) h) (fun r => Fr (fun a j => (a = p ∧ (j = 7 ∨ j = 8)) ∨ a = p + 4 ∨ a = p + 5) h r.2 ∧ PMade D set k t th p r.2) := by
  have hN := hD.N16
  have hcs := cs_le t
  have bT := hT.b
  have bp := hp.b
  have ht5 := hp.t
  have hth : th = 1 ∨ th = 2 := by rcases h2 with h2 | h2; exact Or.inl h2.1; exact Or.inr h2.1
  subst h1
  unfold s_X2_make
  rw [if_pos hp.l0, bd_v, if_pos hT.l0]
  refine zw_bd (fillW_ok hp.l5 (Nat.ble_eq_true_of_le (by omega))) ?_
  rintro ⟨u1, h1⟩ ⟨f1, v1⟩
  refine zw_bd (fillW_ok hp.l4 (Nat.ble_eq_true_of_le (by omega))) ?_
  rintro ⟨u2, h2'⟩ ⟨f2, v2⟩
  dsimp only at f1 v1 f2 v2 ⊢
  have f12 : Fr (fun a j => (a = p ∧ (j = 7 ∨ j = 8)) ∨ a = p + 4 ∨ a = p + 5) h h2' := by
    refine ((Fr.refl _ h).sI (a := p) (k := 7) (v := gI h T 5) (by omega)).trans2 (f1.trans2 (S := fun a j => a = p + 4 ∨ a = p + 5) f2 (by omega) (by omega)) (fun a k q => q) (by omega)
  have e7 : gI h2' p 7 = zi D.ten := by
    rw [f2.i (by omega), f1.i (by omega), gI_sI, if_pos ⟨rfl, rfl⟩]
    exact x.1.2.2.2.2.2
  have x2 := x.fr f12 (by intro a j; omega)
  rw [x2.1.2.2.1]
  refine zw_bd (P := fun y => Fr (fun a j => (a = p ∧ (j = 7 ∨ j = 8)) ∨ a = p + 4 ∨ a = p + 5) h y.2 ∧ gI y.2 p 7 = zi D.ten ∧ (∀ c n, c < cs t → n ≤ 16 → gL y.2 (p + 5) (33 * c + n) = zl (pV D set k t th D.N c n)) ∧ (∀ e c n, e < D.N → c < cs t → n ≤ 16 + e → mB (gL y.2 (p + 4) (e * cs t + c)) n = pGo D set k t th (D.N - 1 - e) c n)) ?_ ?_
  · refine zw_for D.N (fun i => zi ((D.N : Int) - 1 - i)) () (fun i h' => Fr (fun a j => (a = p ∧ (j = 7 ∨ j = 8)) ∨ a = p + 4 ∨ a = p + 5) h h' ∧ gI h' p 7 = zi D.ten ∧ (∀ c n, c < cs t → n ≤ 16 + (D.N - i) → gL h' (p + 5) (33 * c + n) = zl (pV D set k t th i c n)) ∧ (∀ e c n, D.N - i ≤ e → e < D.N → c < cs t → n ≤ 16 + e → mB (gL h' (p + 4) (e * cs t + c)) n = pGo D set k t th (D.N - 1 - e) c n) ∧ (∀ e c, e < D.N - i → c < cs t → gL h' (p + 4) (e * cs t + c) = 0)) (by omega) ?_ ⟨f12, e7, fun c n hc hn => ?_, fun e c n h1 h2 => by omega, fun e c he hc => v2 _ (cs_lt hc (by omega))⟩ ?_ ?_
    · exact (by first | (simp only [zi_lit, zi_neg, zi_add, zi_sub, zi_mul, zl_lit, zl_neg, zl_add, zl_sub, zl_mul, zl_i]; exact congrArg zi (by omega)) | (simp only [zi_lit, zi_neg, zi_add, zi_sub, zi_mul, zl_lit, zl_neg, zl_add, zl_sub, zl_mul, zl_i]; done) | exact congrArg zi (by omega))
    · rw [pV_0, f2.l (by omega)]
      exact v1 _ (by omega)
    · rintro i h' hi ⟨hf, h7, ha, hb, hz⟩
      have xs := x.fr hf (by intro a j; omega)
      have pks : PK t p h' := pk.fr hf (by omega) (by omega)
      unfold l_X2_make_32
      refine zw_f (by rw [(show (0 : Int32) = zi 0 from zi_lit 0), zi_lt (by omega) (by omega) (by omega) (by omega)]; show ¬ (D.N : Int) - 1 - i < 0; omega) ?_
      have he : D.N - 1 - i + 1 + i = D.N := by omega
      have hes : zi ((D.N : Int) - 1 - i) = zi ((D.N - 1 - i : Nat) : Int) := congrArg zi (by omega)
      rw [hes, pks.1]
      have nxt : (Sum.inl (zi ((D.N - 1 - i : Nat) : Int) + (-1)) : Int32 ⊕ Unit) = .inl (zi ((D.N : Int) - 1 - (i + 1 : Nat))) := by
        refine congrArg Sum.inl ?_
        simp only [zi_lit, zi_neg, zi_add, zi_sub, zi_mul, zl_lit, zl_neg, zl_add, zl_sub, zl_mul, zl_i]
        exact congrArg zi (by omega)
      have lik := c_likely (th := th) (a := zi k) (b := zi ((D.N - 1 - i : Nat) : Int)) hD hT xs rfl rfl hk (by omega) h2
      have opened : (t ≠ 2 → ∀ c, dM t set (D.N - 1 - i) c = true) → zw (j_X2_make_61_32 p T (zi k) a2 (some sa) (zi ((D.N - 1 - i : Nat) : Int)) 1 h') (fun r => r.1 = .inl (zi ((D.N : Int) - 1 - (i + 1 : Nat))) ∧ Fr (fun a j => (a = p ∧ (j = 7 ∨ j = 8)) ∨ a = p + 4 ∨ a = p + 5) h r.2 ∧ gI r.2 p 7 = zi D.ten ∧ (∀ c n, c < cs t → n ≤ 16 + (D.N - (i + 1)) → gL r.2 (p + 5) (33 * c + n) = zl (pV D set k t th (i + 1) c n)) ∧ (∀ e c n, D.N - (i + 1) ≤ e → e < D.N → c < cs t → n ≤ 16 + e → mB (gL r.2 (p + 4) (e * cs t + c)) n = pGo D set k t th (D.N - 1 - e) c n) ∧ (∀ e c, e < D.N - (i + 1) → c < cs t → gL r.2 (p + 4) (e * cs t + c) = 0)) := by
        intro hm
        unfold j_X2_make_61_32
        refine zw_bd1 lik ?_
        refine zw_bd (c_make81 (set := set) hD hT hp xs pks hk hth he hm rfl rfl rfl (fun c n hc hn => ha c n hc (by omega)) (fun c hc => hz _ c (by omega) hc)) ?_
        rintro ⟨u3, h3⟩ ⟨f3, v3, b3⟩
        dsimp only at f3 v3 b3 ⊢
        unfold j_X2_make_109_32
        refine zw_some ⟨nxt, hf.trans (f3.mono (by omega)), ?_, fun c n hc hn => v3 c n hc (by omega), fun e c n h1 h2 h3' h4 => ?_, fun e c h1 h2 => ?_⟩
        · show gI h3 p 7 = _
          rw [f3.i (by omega)]
          exact h7
        · by_cases hee : e = D.N - 1 - i
          · subst hee
            rw [show D.N - 1 - (D.N - 1 - i) = i by omega]
            exact b3 c n h3' h4
          · show mB (gL h3 (p + 4) (e * cs t + c)) n = _
            rw [f3.l (by
              rintro (q | ⟨-, c', hc', q⟩)
              · omega
              · exact cs_ne h3' hc' (fun z => hee z.1) q)]
            exact hb e c n (by omega) h2 h3' h4
        · show gL h3 (p + 4) (e * cs t + c) = 0
          rw [f3.l (by
            rintro (q | ⟨-, c', hc', q⟩)
            · omega
            · exact cs_ne h2 hc' (fun z => by omega) q)]
          exact hz e c (by omega) h2
      by_cases ht3 : t = 3
      · refine zw_t (by rw [ht3]; rfl) ?_
        refine zw_bd1 (at_ok (D.N - 1 - i) hsa rfl (by omega)) ?_
        rw [hf.i (by omega), hset _ (by omega)]
        rcases h01 (D.N - 1 - i) (by omega) with q | q
        · refine zw_f (by rw [q]; decide) ?_
          unfold j_X2_make_61_32
          refine zw_bd1 lik ?_
          have hgo : ∀ c n, pGo D set k t th i c n = false := by
            intro c n
            unfold pGo dM
            rw [if_neg (by omega), if_pos ht3, show D.N - 1 - i = D.N - 1 - i from rfl, q]
            rfl
          refine zw_bd (P := fun y => y.2 = h') ?_ ?_
          · refine zw_lp 0 (fun _ _ h2 => h2 = h') (by decide) rfl ?_
            rintro j s h2 _ rfl
            unfold l_X2_make_81
            refine zw_if (fun _ => zw_some (Or.inr ⟨_, rfl, rfl⟩)) (fun _ => ?_)
            exact zw_t rfl (zw_some (Or.inr ⟨_, rfl, rfl⟩))
          · rintro ⟨u3, h3⟩ rfl
            dsimp only
            unfold j_X2_make_109_32
            refine zw_some ⟨nxt, hf, h7, fun c n hc hn => ?_, fun e c n h1 h2 h3' h4 => ?_, fun e c h1 h2 => hz e c (by omega) h2⟩
            · show gL h3 (p + 5) (33 * c + n) = _
              rw [ha c n hc (by omega), pV_s, if_neg (by rw [hgo]; decide)]
            · by_cases hee : e = D.N - 1 - i
              · subst hee
                show mB (gL h3 (p + 4) _) n = _
                rw [show D.N - 1 - (D.N - 1 - i) = i by omega, hgo, hz _ c (by omega) h3', mB_0]
              · exact hb e c n (by omega) h2 h3' h4
        · refine zw_t (by rw [q]; rfl) ?_
          unfold j_X2_make_56_32
          refine opened (fun _ c => ?_)
          unfold dM
          rw [if_neg (by omega), if_pos ht3]
          exact decide_eq_true q
      · refine zw_f (by rw [(show (3 : Int32) = zi 3 from zi_lit 3), zi_eq (by omega) (by omega) (by omega) (by omega)]; show ¬ (t : Int) = 3; omega) ?_
        unfold j_X2_make_56_32
        refine opened (fun ht2 c => ?_)
        unfold dM
        rw [if_neg ht2, if_neg ht3]
    · rintro h' ⟨hf, h7, ha, hb, hz⟩
      unfold l_X2_make_32
      refine zw_t (by rw [(show (0 : Int32) = zi 0 from zi_lit 0), zi_lt (by omega) (by omega) (by omega) (by omega)]; show (D.N : Int) - 1 - (D.N : Nat) < 0; omega) ?_
      exact zw_some ⟨rfl, hf, h7, fun c n hc hn => ha c n hc (by omega), fun e c n he hc hn => hb e c n (by omega) he hc hn⟩
  · rintro ⟨u3, h3⟩ ⟨f3, h7, ha, hb⟩
    dsimp only at f3 h7 ha hb ⊢
    have hc0 := c0_lt hD t
    have btn := hD.tb
    refine zw_bd1 (c_left hp (pk.fr f3 (by omega) (by omega)) h7 (n := 0) ((show (0 : Int32) = zi 0 from zi_lit 0))) ?_
    refine zw_bd1 (atW_ok (33 * c0 D t + 0) hp.l5 ?_ (by omega) (Nat.ble_eq_true_of_le (by omega))) ?_
    · simp only [zi_lit, zi_neg, zi_add, zi_sub, zi_mul, zl_lit, zl_neg, zl_add, zl_sub, zl_mul, zl_i]
      refine congrArg zi ?_
      unfold c0
      split <;> omega
    · rw [ha _ 0 hc0 (by omega)]
      refine zw_some ⟨f3.sL (by omega), ?_, ?_, fun e c n he hc hn => ?_⟩
      · exact h7
      · show gL (sL h3 p 8 _) p 8 = _
        rw [gL_sL, if_pos ⟨rfl, rfl⟩]
      · show mB (gL (sL h3 p 8 _) (p + 4) _) n = _
        rw [gL_sL, if_neg (by omega)]
        exact hb e c n he hc hn
/-- takes, where the mask tells it -/
theorem c_takes (hD : WFD D) (hp : PL t p) (pk : PK t p h) (m : PMade D set k t th p h) {e c n : Nat} {a0 a1 a2 : Int32} (h0 : a0 = zi e) (h1 : t = 2 → a1 = zi c) (h1' : t ≠ 2 → c = 0) (h2 : a2 = zi n) (he : e < D.N) (hc : c < cs t) (hn : n ≤ 16 + e) : s_X2_takes p a0 a1 a2 h = some (if pGo D set k t th (D.N - 1 - e) c n = true then 1 else 0) := by
  have hN := hD.N16
  have ht5 := hp.t
  have hcs := cs_le t
  have hi := cs_lt (t := t) hc (by omega : e < 16)
  have key : ∀ k0 : Int32, k0 = zi c → j_X2_takes_13 p a0 a2 k0 h = some (if pGo D set k t th (D.N - 1 - e) c n = true then 1 else 0) := by
    rintro k0 rfl
    subst h0 h2
    unfold j_X2_takes_13
    rw [pk.2, if_neg (by rw [(show (0 : Int32) = zi 0 from zi_lit 0), zi_lt (by omega) (by omega) (by omega) (by omega)]; show ¬ (c : Int) < 0; omega), if_neg (by rw [zi_le (by omega) (by omega) (by omega) (by omega)]; omega), if_neg (by rw [(show (0 : Int32) = zi 0 from zi_lit 0), zi_lt (by omega) (by omega) (by omega) (by omega)]; show ¬ (n : Int) < 0; omega), if_pos (by rw [(show (33 : Int32) = zi 33 from zi_lit 33), zi_lt (by omega) (by omega) (by omega) (by omega)]; show (n : Int) < 33; omega), atW_ok (e * cs t + c) hp.l4 (by simp only [zi_lit, zi_neg, zi_add, zi_sub, zi_mul, zl_lit, zl_neg, zl_add, zl_sub, zl_mul, zl_i]; exact congrArg zi (by rw [Int.natCast_add, Int.natCast_mul])) hi (Nat.ble_eq_true_of_le (by omega)), bd_v]
    have mb := m.2.2 e c n he hc hn
    cases hg : pGo D set k t th (D.N - 1 - e) c n
    · rw [if_pos ((mB_bit (by omega)).mpr (mb.trans hg)), if_neg (by decide)]
    · rw [if_neg (fun z => by rw [(mB_bit (by omega)).mp z] at mb; rw [hg] at mb; exact absurd mb (by decide)), if_pos rfl]
  unfold s_X2_takes
  rw [if_pos hp.l0, pk.1]
  by_cases ht2 : t = 2
  · rw [if_pos (by rw [ht2]; rfl)]
    exact key _ (h1 ht2)
  · rw [if_neg (by rw [(show (2 : Int32) = zi 2 from zi_lit 2), zi_eq (by omega) (by omega) (by omega) (by omega)]; show ¬ (t : Int) = 2; omega)]
    exact key _ (by rw [h1' ht2]; rfl)
end
