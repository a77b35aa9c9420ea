/-! 54.make: the class's plan: weigh, make, takes (the first rows of the bits began as a kit's starting text) -/
theorem za_bit {w : Int64} {s : UInt64} {j : Nat} (hj : j < 64) (hs : s.toNat = j) : ((w.toUInt64 >>> s).toInt64 &&& 1) = 0 ↔ w.toBitVec.getLsbD j = false := by
  have e : (w.toUInt64 >>> s).toInt64.toBitVec = w.toBitVec >>> j := by
    apply BitVec.eq_of_toNat_eq
    show (w.toUInt64 >>> s).toNat = _
    rw [UInt64.toNat_shiftRight, hs, Nat.mod_eq_of_lt hj, BitVec.toNat_ushiftRight]
    rfl
  rw [← Int64.toBitVec_inj, Int64.toBitVec_and, e]
  show w.toBitVec >>> j &&& 1#64 = 0#64 ↔ _
  constructor
  · intro h
    have t := congrArg (fun x => x.getLsbD 0) h
    simpa using t
  · intro h
    apply BitVec.eq_of_getLsbD_eq
    intro i hi
    cases i with
    | zero => simp [h]
    | succ i => simp
def mB (m : Int64) (n : Nat) : Bool := m.toBitVec.getLsbD n
theorem mB_0 (n : Nat) : mB 0 n = false := by unfold mB; exact BitVec.getLsbD_zero
theorem mB_tp : ∀ n : Nat, n < 64 → (lshlF 1 (zi n)).toBitVec = BitVec.twoPow 64 n := by decide +kernel
theorem mB_am : ∀ n : Nat, n < 64 → ((zi n).toInt64.toUInt64 &&& Int64.toUInt64 63).toNat = n := by decide +kernel
theorem mB_bit {m : Int64} {n : Nat} (hn : n < 64) : ((lushrF m (zi n)) &&& 1) = 0 ↔ mB m n = false := za_bit hn (mB_am n hn)
theorem mB_or {m : Int64} {n j : Nat} (hn : n < 64) : mB (m ||| lshlF 1 (zi n)) j = (mB m j || decide (n = j)) := by
  unfold mB
  rw [Int64.toBitVec_or, mB_tp n hn, BitVec.getLsbD_or, BitVec.getLsbD_twoPow]
  simp [hn]
theorem mz_l {F : Int} {n : Nat} (h0 : 0 ≤ F * n) (h1 : F * n ≤ 1000000) : ((if 0 < (1000 - (zi F * zi n)) then (1000 - (zi F * zi n)) else 0 : Int32)).toInt64 = zl (mz (1000 - F * n)) := by
  simp only [zi_lit, zi_neg, zi_add, zi_sub, zi_mul, zl_lit, zl_neg, zl_add, zl_sub, zl_mul, zl_i]
  unfold mz
  by_cases c : 0 < 1000 - F * n
  · rw [if_pos (by rw [zi_lt (by omega) (by omega) (by omega) (by omega)]; exact c), if_pos c, zi_l (by omega) (by omega)]
  · rw [if_neg (by rw [zi_lt (by omega) (by omega) (by omega) (by omega)]; exact c), if_neg c, zi_l (by omega) (by omega)]
/-- a plan's own constants -/
def PK (t p : Nat) (h : AH) : Prop := gI h p 0 = zi t ∧ gI h p 1 = zi (cs t)
section
variable {D : HD} {T : Nat} {h : AH} {set : Nat → Int} {t p k th : Nat}
theorem c_weighL (hD : WFD D) (hp : PL t p) {i e c : Nat} (hk : k < D.K) (hth : th = 1 ∨ th = 2) (he : e + 1 + i = D.N) (hc : c < cs t) (hm : dM t set e c = true)
    {p6 p9 : Int64} {p3 p4 p5 p8 p11 p12 : Int32} (h3 : p3 = zi e) (h5 : p5 = zi (dC D k e th)) (h6 : p6 = zl (D.Q k (6 + (D.E e 0).toNat))) (h8 : p8 = zi (D.Q k 5)) (h9 : p9 = zl (if t = 0 then 1000 * D.E e 1 else 0)) (h11 : p11 = zi (33 * c : Nat)) (h12 : p12 = zi (33 * (if t = 2 then c - 1 else c) : Nat))
    (ha : ∀ c' n, c' ≤ c → n ≤ 17 + e → gL h (p + 5) (33 * c' + n) = zl (pV D set k t th i c' n)) :
    zw (lpH (l_X2_weigh_96 p p3 p4 p5 p6 p8 p9 p11 p12) FU (0, 0) h) (fun r => Fr (fun a j => a = p + 5 ∧ 33 * c ≤ j ∧ j < 33 * c + 33) h r.2 ∧ (∀ n, n ≤ 16 + e → gL r.2 (p + 5) (33 * c + n) = zl (pV D set k t th (i + 1) c n)) ∧ (∀ n, n ≤ 16 + e → mB r.1 n = pGo D set k t th i c n)) := by
  have hN := hD.N16
  have hcs := cs_le t
  subst h3 h5 h6 h8 h9 h11 h12
  have he' : D.N - 1 - i = e := by omega
  refine zw_lp (17 + e) (fun n s h' => s.2 = zi n ∧ Fr (fun a j => a = p + 5 ∧ 33 * c ≤ j ∧ j < 33 * c + 33) h h' ∧ (∀ j, j < n → gL h' (p + 5) (33 * c + j) = zl (pV D set k t th (i + 1) c j)) ∧ (∀ j, n ≤ j → j ≤ 17 + e → gL h' (p + 5) (33 * c + j) = zl (pV D set k t th i c j)) ∧ (∀ j, mB s.1 j = (decide (j < n) && pGo D set k t th i c j))) (by omega) ⟨rfl, Fr.refl _ _, fun j hj => by omega, fun j _ hj => ha c j (Nat.le_refl _) hj, fun j => by rw [show mB (0, (0 : Int32)).1 j = false from mB_0 j]; simp⟩ ?_
  rintro n ⟨m, s2⟩ h' hn ⟨hs, hf, hlo, hhi, hb⟩
  dsimp only at hs hb
  subst hs
  unfold l_X2_weigh_96
  dsimp only
  by_cases q : n = 17 + e
  · subst q
    refine zw_t (by simp only [zi_lit, zi_neg, zi_add, zi_sub, zi_mul, zl_lit, zl_neg, zl_add, zl_sub, zl_mul, zl_i]; rw [zi_lt (by omega) (by omega) (by omega) (by omega)]; omega) (zw_some (Or.inr ⟨_, rfl, hf, fun j hj => hlo j (by omega), fun j hj => ?_⟩))
    rw [hb j]
    simp [show j < 17 + e by omega]
  · have hn' : n < 17 + e := by omega
    refine zw_f (by simp only [zi_lit, zi_neg, zi_add, zi_sub, zi_mul, zl_lit, zl_neg, zl_add, zl_sub, zl_mul, zl_i]; rw [zi_lt (by omega) (by omega) (by omega) (by omega)]; omega) ?_
    have bV := pV_b hD set (t := t) hk hth i c n (by omega) (by omega)
    have bX := pX_b hD set (t := t) hk hth (r := i) (c := c) (n := n) (by omega) (by omega)
    have bG := dG_b hD (t := t) hk (e := e) (by omega) (n := n) (by omega)
    have bC := (dC_b hD hk (e := e) (by omega) hth).2.2
    have bE := (hD.e e (by omega)).2.1
    have bI : (i : Int) ≤ 16 := by omega
    have bV' := pV_b hD set (t := t) hk hth i (if t = 2 then c - 1 else c) (n + 1) (by omega) (by omega)
    refine zw_bd1 (atW_ok (33 * c + n) hp.l5 (by first | (simp only [zi_lit, zi_neg, zi_add, zi_sub, zi_mul, zl_lit, zl_neg, zl_add, zl_sub, zl_mul, zl_i]; exact congrArg zi (by omega)) | (simp only [zi_lit, zi_neg, zi_add, zi_sub, zi_mul, zl_lit, zl_neg, zl_add, zl_sub, zl_mul, zl_i]; done) | exact congrArg zi (by omega)) (by omega) (Nat.ble_eq_true_of_le (by omega))) ?_
    refine zw_bd1 (atW_ok (33 * (if t = 2 then c - 1 else c) + (n + 1)) hp.l5 (by first | (simp only [zi_lit, zi_neg, zi_add, zi_sub, zi_mul, zl_lit, zl_neg, zl_add, zl_sub, zl_mul, zl_i]; exact congrArg zi (by omega)) | (simp only [zi_lit, zi_neg, zi_add, zi_sub, zi_mul, zl_lit, zl_neg, zl_add, zl_sub, zl_mul, zl_i]; done) | exact congrArg zi (by omega)) (by split <;> omega) (Nat.ble_eq_true_of_le (by omega))) ?_
    rw [hhi n (Nat.le_refl _) (by omega)]
    have hx5 : gL h' (p + 5) (33 * (if t = 2 then c - 1 else c) + (n + 1)) = zl (pV D set k t th i (if t = 2 then c - 1 else c) (n + 1)) := by
      by_cases ht2 : t = 2
      · rw [if_pos ht2]
        have c0 : 0 < c := by
          unfold dM at hm
          rw [if_pos ht2] at hm
          exact of_decide_eq_true hm
        rw [hf.l (by omega)]
        exact ha (c - 1) (n + 1) (by omega) (by omega)
      · rw [if_neg ht2]
        exact hhi (n + 1) (by omega) (by omega)
    rw [hx5, mz_l bG.2.1.1 (by omega)]
    have hpx : zl (D.Q k (6 + (D.E e 0).toNat)) * zl (mz (1000 - D.Q k 5 * n)) - zl (if t = 0 then 1000 * D.E e 1 else 0) + zl (pV D set k t th i (if t = 2 then c - 1 else c) (n + 1)) = zl (pX D set k t th i c n) := by
      simp only [zi_lit, zi_neg, zi_add, zi_sub, zi_mul, zl_lit, zl_neg, zl_add, zl_sub, zl_mul, zl_i]
      unfold pX dG
      rw [he']
    rw [hpx]
    have hgo : pGo D set k t th i c n = true ↔ pV D set k t th i c n < pX D set k t th i c n := by
      rw [pGo_t, he']
      exact ⟨fun z => z.2, fun z => ⟨hm, z⟩⟩
    have hle : zl (pX D set k t th i c n) ≤ zl (pV D set k t th i c n) ↔ ¬ pGo D set k t th i c n = true := by
      rw [zl_le (by omega) (by omega) (by omega) (by omega), hgo]
      omega
    refine zw_if (fun q1 => ?_) (fun q1 => ?_)
    · have hg : pGo D set k t th i c n = false := by
        have := hle.mp q1
        cases hh : pGo D set k t th i c n
        · rfl
        · exact absurd hh this
      unfold j_X2_weigh_205_96
      refine zw_some (Or.inl ⟨_, rfl, hn', ?_, hf, fun j hj => ?_, fun j h1 h2 => hhi j (by omega) h2, fun j => ?_⟩)
      · show zi n + 1 = zi ((n + 1 : Nat) : Int)
        exact (by first | (simp only [zi_lit, zi_neg, zi_add, zi_sub, zi_mul, zl_lit, zl_neg, zl_add, zl_sub, zl_mul, zl_i]; exact congrArg zi (by omega)) | (simp only [zi_lit, zi_neg, zi_add, zi_sub, zi_mul, zl_lit, zl_neg, zl_add, zl_sub, zl_mul, zl_i]; done) | exact congrArg zi (by omega))
      · by_cases hjn : j = n
        · subst hjn
          rw [hhi j (Nat.le_refl _) (by omega), pV_s, if_neg (by rw [hg]; decide)]
        · exact hlo j (by omega)
      · rw [hb j]
        by_cases hjn : j = n
        · subst hjn; rw [hg]; simp
        · by_cases hlt : j < n
          · simp [hlt, show j < n + 1 by omega]
          · simp [hlt, show ¬ j < n + 1 by omega]
    · have hg : pGo D set k t th i c n = true := by
        cases hh : pGo D set k t th i c n
        · exact absurd (hle.mpr (by rw [hh]; decide)) q1
        · rfl
      have hlt := hgo.mp hg
      have mm := mul_b (a := pX D set k t th i c n - pV D set k t th i c n) (A := 20000000) (B := 1000000) (by omega) (by omega) bC.1 bC.2
      refine zw_bd1 (ldivF_ok (a := (pX D set k t th i c n - pV D set k t th i c n) * dC D k e th) (b := 1000000) (by rw [zi_l (by omega) (by omega)]; simp only [zi_lit, zi_neg, zi_add, zi_sub, zi_mul, zl_lit, zl_neg, zl_add, zl_sub, zl_mul, zl_i]) (zl_lit _) (by omega) (by omega) (by omega) (by omega)) ?_
      refine zw_bd1 (putW_ok (33 * c + n) hp.l5 (by first | (simp only [zi_lit, zi_neg, zi_add, zi_sub, zi_mul, zl_lit, zl_neg, zl_add, zl_sub, zl_mul, zl_i]; exact congrArg zi (by omega)) | (simp only [zi_lit, zi_neg, zi_add, zi_sub, zi_mul, zl_lit, zl_neg, zl_add, zl_sub, zl_mul, zl_i]; done) | exact congrArg zi (by omega)) (by omega) (Nat.ble_eq_true_of_le (by omega))) ?_
      unfold j_X2_weigh_205_96
      refine zw_some (Or.inl ⟨_, rfl, hn', ?_, hf.sL ⟨rfl, by omega, by omega⟩, fun j hj => ?_, fun j h1 h2 => ?_, fun j => ?_⟩)
      · show zi n + 1 = zi ((n + 1 : Nat) : Int)
        exact (by first | (simp only [zi_lit, zi_neg, zi_add, zi_sub, zi_mul, zl_lit, zl_neg, zl_add, zl_sub, zl_mul, zl_i]; exact congrArg zi (by omega)) | (simp only [zi_lit, zi_neg, zi_add, zi_sub, zi_mul, zl_lit, zl_neg, zl_add, zl_sub, zl_mul, zl_i]; done) | exact congrArg zi (by omega))
      · show gL (sL h' (p + 5) (33 * c + n) _) (p + 5) (33 * c + j) = _
        rw [gL_sL]
        by_cases hjn : j = n
        · subst hjn
          rw [if_pos ⟨rfl, rfl⟩, pV_s, if_pos hg, he', zl_add]
        · rw [if_neg (by omega)]
          exact hlo j (by omega)
      · show gL (sL h' (p + 5) (33 * c + n) _) (p + 5) (33 * c + j) = _
        rw [gL_sL, if_neg (by omega)]
        exact hhi j (by omega) h2
      · show mB (m ||| lshlF 1 (zi n)) j = _
        rw [mB_or (by omega), hb j]
        by_cases hjn : n = j
        · subst hjn; rw [hg]; simp
        · by_cases hlt : j < n
          · simp [hlt, show j < n + 1 by omega, hjn]
          · simp [hlt, show ¬ j < n + 1 by omega, hjn]
theorem c_weigh (hD : WFD D) (hT : TL T) (hp : PL t p) (x : CH D T h) (pk : PK t p h) {i e c : Nat} (hk : k < D.K) (hth : th = 1 ∨ th = 2) (he : e + 1 + i = D.N) (hc : c < cs t) (hm : t ≠ 2 → dM t set e c = true)
    {a1 a2 a3 a4 : Int32} (h1 : a1 = zi k) (h2 : a2 = zi e) (h3 : a3 = zi c) (h4 : a4 = zi (dC D k e th))
    (ha : ∀ c' n, c' ≤ c → n ≤ 17 + e → gL h (p + 5) (33 * c' + n) = zl (pV D set k t th i c' n)) (hg : gL h (p + 4) (e * cs t + c) = 0) :
    zw (s_X2_weigh p (some T) a1 a2 a3 a4 h) (fun r => Fr (fun a j => (a = p + 5 ∧ 33 * c ≤ j ∧ j < 33 * c + 33) ∨ (a = p + 4 ∧ j = e * cs t + c)) h r.2 ∧ (∀ n, n ≤ 16 + e → gL r.2 (p + 5) (33 * c + n) = zl (pV D set k t th (i + 1) c n)) ∧ (∀ n, n ≤ 16 + e → mB (gL r.2 (p + 4) (e * cs t + c)) n = pGo D set k t th i c n)) := by
  have hN := hD.N16
  have hcs := cs_le t
  have ht5 := hp.t
  have he' : D.N - 1 - i = e := by omega
  have bE := hD.e e (by omega)
  have hidx : e * cs t + c < 16 * cs t := by
    have : (e + 1) * cs t ≤ 16 * cs t := Nat.mul_le_mul_right _ (by omega)
    rw [Nat.add_mul] at this
    omega
  subst h1 h2 h3 h4
  unfold s_X2_weigh
  rw [if_pos hp.l0, bd_v, if_pos hT.l0, pk.1]
  have main : dM t set e c = true → zw (j_X2_weigh_14 p T (zi k) (zi e) (zi c) (zi (dC D k e th)) h) (fun r => Fr (fun a j => (a = p + 5 ∧ 33 * c ≤ j ∧ j < 33 * c + 33) ∨ (a = p + 4 ∧ j = e * cs t + c)) h r.2 ∧ (∀ n, n ≤ 16 + e → gL r.2 (p + 5) (33 * c + n) = zl (pV D set k t th (i + 1) c n)) ∧ (∀ n, n ≤ 16 + e → mB (gL r.2 (p + 4) (e * cs t + c)) n = pGo D set k t th i c n)) := by
    intro hm'
    have fin : ∀ (v6 v9 : Int64) (v8 v11 k0 : Int32), v6 = zl (D.Q k (6 + (D.E e 0).toNat)) → v8 = zi (D.Q k 5) → v9 = zl (if t = 0 then 1000 * D.E e 1 else 0) → v11 = zi (33 * c : Nat) → k0 = zi (33 * (if t = 2 then c - 1 else c) : Nat) → zw (j_X2_weigh_88 p (zi e) (zi c) (zi (dC D k e th)) v6 v8 v9 v11 k0 h) (fun r => Fr (fun a j => (a = p + 5 ∧ 33 * c ≤ j ∧ j < 33 * c + 33) ∨ (a = p + 4 ∧ j = e * cs t + c)) h r.2 ∧ (∀ n, n ≤ 16 + e → gL r.2 (p + 5) (33 * c + n) = zl (pV D set k t th (i + 1) c n)) ∧ (∀ n, n ≤ 16 + e → mB (gL r.2 (p + 4) (e * cs t + c)) n = pGo D set k t th i c n)) := by
      intro v6 v9 v8 v11 k0 e6 e8 e9 e11 e0
      unfold j_X2_weigh_88
      refine zw_bd (c_weighL hD hp hk hth he hc hm' rfl rfl e6 e8 e9 e11 e0 ha) ?_
      rintro ⟨m, h1⟩ ⟨hf, hv, hb⟩
      dsimp only at hf hv hb ⊢
      have hcc : gI h1 p 1 = zi (cs t) := by rw [hf.i (by omega)]; exact pk.2
      rw [hcc]
      refine zw_bd1 (putW_ok (e * cs t + c) hp.l4 (by simp only [zi_lit, zi_neg, zi_add, zi_sub, zi_mul, zl_lit, zl_neg, zl_add, zl_sub, zl_mul, zl_i]; exact congrArg zi (by rw [Int.natCast_add, Int.natCast_mul])) hidx (Nat.ble_eq_true_of_le (by omega))) ?_
      refine zw_some ⟨(hf.mono (fun a j q => Or.inl q)).sL (Or.inr ⟨rfl, rfl⟩), fun n hn => ?_, fun n hn => ?_⟩
      · show gL (sL h1 (p + 4) _ _) _ _ = _
        rw [gL_sL, if_neg (by omega)]
        exact hv n hn
      · show mB (gL (sL h1 (p + 4) _ _) _ _) _ = _
        rw [gL_sL, if_pos ⟨rfl, rfl⟩]
        exact hb n hn
    have mid : ∀ (v6 k0 : Int64) (v8 : Int32), v6 = zl (D.Q k (6 + (D.E e 0).toNat)) → v8 = zi (D.Q k 5) → k0 = zl (if t = 0 then 1000 * D.E e 1 else 0) → zw (j_X2_weigh_61 p (zi e) (zi c) (zi (dC D k e th)) v6 v8 k0 h) (fun r => Fr (fun a j => (a = p + 5 ∧ 33 * c ≤ j ∧ j < 33 * c + 33) ∨ (a = p + 4 ∧ j = e * cs t + c)) h r.2 ∧ (∀ n, n ≤ 16 + e → gL r.2 (p + 5) (33 * c + n) = zl (pV D set k t th (i + 1) c n)) ∧ (∀ n, n ≤ 16 + e → mB (gL r.2 (p + 4) (e * cs t + c)) n = pGo D set k t th i c n)) := by
      intro v6 k0 v8 e6 e8 e0
      unfold j_X2_weigh_61
      rw [pk.1]
      by_cases ht2 : t = 2
      · have c0 : 0 < c := by
          unfold dM at hm'
          rw [if_pos ht2] at hm'
          exact of_decide_eq_true hm'
        refine zw_t (by rw [ht2]; rfl) (fin _ _ _ _ _ e6 e8 e0 (by first | (simp only [zi_lit, zi_neg, zi_add, zi_sub, zi_mul, zl_lit, zl_neg, zl_add, zl_sub, zl_mul, zl_i]; exact congrArg zi (by omega)) | (simp only [zi_lit, zi_neg, zi_add, zi_sub, zi_mul, zl_lit, zl_neg, zl_add, zl_sub, zl_mul, zl_i]; done) | exact congrArg zi (by omega)) ?_)
        rw [if_pos ht2]
        exact (by first | (simp only [zi_lit, zi_neg, zi_add, zi_sub, zi_mul, zl_lit, zl_neg, zl_add, zl_sub, zl_mul, zl_i]; exact congrArg zi (by omega)) | (simp only [zi_lit, zi_neg, zi_add, zi_sub, zi_mul, zl_lit, zl_neg, zl_add, zl_sub, zl_mul, zl_i]; done) | exact congrArg zi (by omega))
      · refine zw_f (by rw [(show (2 : Int32) = zi 2 from zi_lit 2), zi_eq (by omega) (by omega) (by omega) (by omega)]; omega) (fin _ _ _ _ _ e6 e8 e0 (by first | (simp only [zi_lit, zi_neg, zi_add, zi_sub, zi_mul, zl_lit, zl_neg, zl_add, zl_sub, zl_mul, zl_i]; exact congrArg zi (by omega)) | (simp only [zi_lit, zi_neg, zi_add, zi_sub, zi_mul, zl_lit, zl_neg, zl_add, zl_sub, zl_mul, zl_i]; done) | exact congrArg zi (by omega)) ?_)
        rw [if_neg ht2]
        exact (by first | (simp only [zi_lit, zi_neg, zi_add, zi_sub, zi_mul, zl_lit, zl_neg, zl_add, zl_sub, zl_mul, zl_i]; exact congrArg zi (by omega)) | (simp only [zi_lit, zi_neg, zi_add, zi_sub, zi_mul, zl_lit, zl_neg, zl_add, zl_sub, zl_mul, zl_i]; done) | exact congrArg zi (by omega))
    unfold j_X2_weigh_14
    refine zw_bd1 (c_ofE hD hT x (e := e) (w := 0) rfl ((show (0 : Int32) = zi 0 from zi_lit 0)) (by omega) (by decide)) ?_
    refine zw_bd1 (c_ofQ hD hT x (k := k) (w := 6 + (D.E e 0).toNat) rfl (by first | (simp only [zi_lit, zi_neg, zi_add, zi_sub, zi_mul, zl_lit, zl_neg, zl_add, zl_sub, zl_mul, zl_i]; exact congrArg zi (by omega)) | (simp only [zi_lit, zi_neg, zi_add, zi_sub, zi_mul, zl_lit, zl_neg, zl_add, zl_sub, zl_mul, zl_i]; done) | exact congrArg zi (by omega)) hk (by omega)) ?_
    refine zw_bd1 (c_ofQ hD hT x (k := k) (w := 5) rfl ((show (5 : Int32) = zi 5 from zi_lit 5)) hk (by decide)) ?_
    have bW := (hD.q k hk).2.2.2.2.2.2.1 (6 + (D.E e 0).toNat) (by omega) (by omega)
    rw [zi_l (by omega) (by omega), pk.1]
    by_cases ht0 : t = 0
    · refine zw_t (by rw [ht0]; rfl) ?_
      refine zw_bd1 (c_ofE hD hT x (e := e) (w := 1) rfl ((show (1 : Int32) = zi 1 from zi_lit 1)) (by omega) (by decide)) ?_
      refine mid _ _ _ rfl rfl ?_
      rw [if_pos ht0, zi_l (by omega) (by omega)]
      exact (by first | (simp only [zi_lit, zi_neg, zi_add, zi_sub, zi_mul, zl_lit, zl_neg, zl_add, zl_sub, zl_mul, zl_i]; exact congrArg zl (by omega)) | (simp only [zi_lit, zi_neg, zi_add, zi_sub, zi_mul, zl_lit, zl_neg, zl_add, zl_sub, zl_mul, zl_i]; done) | exact congrArg zl (by omega))
    · refine zw_f (by rw [(show (0 : Int32) = zi 0 from zi_lit 0), zi_eq (by omega) (by omega) (by omega) (by omega)]; show ¬ (t : Int) = 0; omega) (mid _ _ _ rfl rfl ?_)
      rw [if_neg ht0]
      rfl
  by_cases ht2 : t = 2
  · refine zw_t (by rw [ht2]; rfl) ?_
    by_cases c0 : c = 0
    · refine zw_t (by rw [c0]; rfl) (zw_some ⟨Fr.refl _ _, fun n hn => ?_, fun n hn => ?_⟩)
      · have hgo : pGo D set k t th i c n = false := by unfold pGo dM; rw [if_pos ht2, c0]; simp
        rw [ha c n (Nat.le_refl _) (by omega), pV_s, if_neg (by rw [hgo]; decide)]
      · have hgo : pGo D set k t th i c n = false := by unfold pGo dM; rw [if_pos ht2, c0]; simp
        rw [hg, mB_0, hgo]
    · refine zw_f (by rw [(show (0 : Int32) = zi 0 from zi_lit 0), zi_eq (by omega) (by omega) (by omega) (by omega)]; show ¬ (c : Int) = 0; omega) (main ?_)
      unfold dM
      rw [if_pos ht2]
      exact decide_eq_true (by omega)
  · exact zw_f (by rw [(show (2 : Int32) = zi 2 from zi_lit 2), zi_eq (by omega) (by omega) (by omega) (by omega)]; show ¬ (t : Int) = 2; omega) (main (hm ht2))
end
