/-! 88.run: draws; both halves side by side -/
theorem bs_and (x : BitVec 32) {n m : Nat} (hnm : n + m ≤ 32) {k : BitVec 32} (hk : ∀ i, i < 32 → k.getLsbD i = true → i < m) : x >>> n &&& k = x.sshiftRight n &&& k := by
  apply BitVec.eq_of_getLsbD_eq
  intro i hi
  rw [BitVec.getLsbD_and, BitVec.getLsbD_and, BitVec.getLsbD_ushiftRight, BitVec.getLsbD_sshiftRight]
  by_cases c : k.getLsbD i = true
  · have := hk i hi c
    rw [if_pos (by omega), decide_eq_false (by omega)]
    rfl
  · rw [Bool.eq_false_iff.mpr c, Bool.and_false, Bool.and_false]
theorem zi_bv (n : Nat) : (zi n).toBitVec = BitVec.ofNat 32 n := by
  rw [← zi_ofNat]
  rfl
/-- the low bits alone -/
theorem i_and (x : Int32) {k : Nat} (hk : k < 2147483648) : ∃ d : Nat, d ≤ k ∧ x &&& zi k = zi d := by
  have e : (BitVec.ofNat 32 k).toNat = k := by
    rw [BitVec.toNat_ofNat]
    exact Nat.mod_eq_of_lt (by omega)
  have l : (x.toBitVec &&& BitVec.ofNat 32 k).toNat ≤ k := by
    have := Nat.and_le_right (n := x.toBitVec.toNat) (m := (BitVec.ofNat 32 k).toNat)
    rw [BitVec.toNat_and]
    omega
  refine ⟨(x.toBitVec &&& BitVec.ofNat 32 k).toNat, l, ?_⟩
  rw [← Int32.toBitVec_inj, Int32.toBitVec_and, zi_bv, zi_bv]
  apply BitVec.eq_of_toNat_eq
  rw [BitVec.toNat_ofNat, Nat.mod_eq_of_lt (by omega)]
def dwN (s : Int32) : Int32 := s * 1103515245 + 12345
def dwV (s : Int32) : Int := (iushrF (dwN s) 16 &&& 32767).toInt % 1000
theorem dw_b (s : Int32) : 0 ≤ dwV s ∧ dwV s ≤ 999 := by
  unfold dwV
  omega
theorem dw_eq (s : Int32) : (s >>> (16 &&& 31)) &&& 32767 = iushrF s 16 &&& 32767 := by
  rw [← Int32.toBitVec_inj, Int32.toBitVec_and, Int32.toBitVec_and]
  exact (bs_and s.toBitVec (n := 16) (m := 15) (by decide) (k := 32767#32) (by decide)).symm
theorem dw_rem (s : Int32) : iremF (iushrF (dwN s) 16 &&& 32767) 1000 = some (zi (dwV s)) := by
  obtain ⟨d, h1, h2⟩ := i_and (iushrF (dwN s) 16) (k := 32767) (by decide)
  have h2' : iushrF (dwN s) 16 &&& 32767 = zi d := h2
  unfold dwV
  rw [h2', iremF_ok (a := d) (b := 1000) rfl ((show (1000 : Int32) = zi 1000 from zi_lit 1000)) (by omega) (by omega) (by decide) (by decide), zi_toInt (by omega) (by omega)]
section
variable {D : HD} {T : Nat} {h : AH}
theorem c_draw {th : Nat} (hth : LAY th = (0, 4)) : s_X4_draw th h = some (zi (dwV (gI h th 2)), sI h th 2 (dwN (gI h th 2))) := by
  have e : gI (sI h th 2 (gI h th 2 * 1103515245 + 12345)) th 2 = dwN (gI h th 2) := by rw [gI_sI, if_pos ⟨rfl, rfl⟩]; rfl
  unfold s_X4_draw
  rw [if_pos hth, e, dw_rem, bd_v]
  rfl
theorem r_draw : s_X10_draw 1000 h = some (zi (dwV (gI h 269 1)), sI h 269 1 (dwN (gI h 269 1))) := by
  have e : gI (sI h 269 1 (dwN (gI h 269 1))) 269 1 = dwN (gI h 269 1) := by rw [gI_sI, if_pos ⟨rfl, rfl⟩]
  unfold s_X10_draw
  rw [ldI_ok 1 (n := 2) rfl ((show (1 : Int32) = zi 1 from zi_lit 1)) (by decide), bd_v, stI_ok 1 (n := 2) rfl ((show (1 : Int32) = zi 1 from zi_lit 1)) (by decide), bd_v]
  show bd (ldI (sI h 269 1 (dwN (gI h 269 1))) 269 1) _ = _
  rw [ldI_ok 1 (n := 2) rfl ((show (1 : Int32) = zi 1 from zi_lit 1)) (by decide), bd_v, e, dw_eq, dw_rem, bd_v]
  rfl
/-- how likely a kind can come -/
def dMay (D : HD) (k : Nat) (wet : Bool) : Int := if wet = true then D.Q k 1 * (1000 - D.Q k 3) / 1000 else D.Q k 1
theorem dMay_b (hD : WFD D) {k : Nat} (hk : k < D.K) (wet : Bool) : 0 ≤ dMay D k wet ∧ dMay D k wet ≤ 1000 := by
  have q := hD.q k hk
  unfold dMay
  cases wet
  · rw [if_neg (by decide)]; exact q.2.1
  · rw [if_pos rfl]
    have m := mul_b (A := 1000) (B := 1000) q.2.1.1 q.2.1.2 (b := 1000 - D.Q k 3) (by omega) (by omega)
    exact div_b (b := 1000) (by decide) m.1 m.2
theorem may_m (hD : WFD D) {k : Nat} (hk : k < D.K) : 0 ≤ D.Q k 1 * (1000 - D.Q k 3) ∧ D.Q k 1 * (1000 - D.Q k 3) ≤ 1000000 := by
  have q := hD.q k hk
  exact mul_b (A := 1000) (B := 1000) q.2.1.1 q.2.1.2 (b := 1000 - D.Q k 3) (by omega) (by omega)
theorem c_canCome (hD : WFD D) (x : YC D T h) {k : Nat} (hk : k < D.K) (wet : Bool) : s_X4_canCome 224 (some T) (zi k) (b1 wet) h = some (if dMay D k wet ≤ dwV (gI h 224 2) then 0 else 1, sI h 224 2 (dwN (gI h 224 2))) := by
  have q := hD.q k hk
  have mb := dMay_b hD hk wet
  have db := dw_b (gI h 224 2)
  have fin : j_X4_canCome_31 224 (zi (dMay D k wet)) h = some (if dMay D k wet ≤ dwV (gI h 224 2) then 0 else 1, sI h 224 2 (dwN (gI h 224 2))) := by
    unfold j_X4_canCome_31
    rw [c_draw (by decide +kernel), bd_v]
    by_cases c : dMay D k wet ≤ dwV (gI h 224 2)
    · rw [if_pos (by rw [zi_le (by omega) (by omega) (by omega) (by omega)]; exact c), if_pos c]
    · rw [if_neg (by rw [zi_le (by omega) (by omega) (by omega) (by omega)]; exact c), if_neg c]
  unfold s_X4_canCome
  rw [if_pos (by decide +kernel), bd_v, if_pos x.1.1.l0, c_ofQ hD x.1.1 x.1.2.2.1 (w := 1) rfl ((show (1 : Int32) = zi 1 from zi_lit 1)) hk (by decide), bd_v]
  cases wet
  · rw [if_pos (show b1 false = 0 from rfl)]
    exact fin
  · have m := may_m hD hk
    rw [if_neg (show ¬ b1 true = 0 by decide), c_ofQ hD x.1.1 x.1.2.2.1 (w := 3) rfl ((show (3 : Int32) = zi 3 from zi_lit 3)) hk (by decide), bd_v, idivF_ok (a := D.Q k 1 * (1000 - D.Q k 3)) (b := 1000) (by rw [show (1000 : Int32) - zi (D.Q k 3) = zi (1000 - D.Q k 3) from zi_sub 1000 _, zi_mul]) ((show (1000 : Int32) = zi 1000 from zi_lit 1000)) m.1 (by omega) (by decide) (by decide), bd_v]
    exact fin
theorem c_comes (hD : WFD D) (x : YC D T h) {k e d : Nat} (hk : k < D.K) (he : e < D.N) (hd : d ≤ 16 + e) : s_X4_comes 224 (some T) (zi k) (some (31 + 6 * (5 * k + dB D k))) (zi e) (zi d) h = if dgo D (rSet D) k (dB D k) e d = true then some (1, h) else if dB D k = 1 ∨ dB D k = 4 then some (if D.Q k 4 ≤ dwV (gI h 224 2) then 0 else 1, sI h 224 2 (dwN (gI h 224 2))) else some (0, h) := by
  have hK := hD.K6
  have hb := dB_lt D k
  have hp := PL.of (k := k) (t := dB D k) (by omega) hb
  have pk := x.1.2.2.2.2.2.2 _ _ hp
  have po := x.2.1 k (dB D k) hk hb
  have q4 := (hD.q k hk).2.2.2.2.1
  have db := dw_b (gI h 224 2)
  have bT := x.1.1.b
  have hne := x.1.2.1
  have ch : CH D T (sI h 224 2 (dwN (gI h 224 2))) := x.1.2.2.1.fr ((Fr.refl (fun a k => a = 224 ∧ k = 2) h).sI ⟨rfl, rfl⟩) (fun a k h1 h2 => by omega)
  unfold s_X4_comes
  rw [if_pos (by decide +kernel), bd_v, if_pos x.1.1.l0, bd_v, if_pos hp.l0, c_left hp pk po.1.1 rfl, bd_v, c_takes2 hD hp pk po.1 rfl rfl rfl he hd, bd_v]
  by_cases g : dgo D (rSet D) k (dB D k) e d = true
  · rw [if_pos g, if_neg one_ne, if_pos g]
  · rw [if_neg g, if_pos rfl, if_neg g, c_habit hp pk, bd_v]
    by_cases t : dB D k = 1 ∨ dB D k = 4
    · rw [if_pos t, if_neg one_ne, if_pos t, c_draw (by decide +kernel), bd_v]
      dsimp only
      rw [c_ofQ hD x.1.1 ch (w := 4) rfl ((show (4 : Int32) = zi 4 from zi_lit 4)) hk (by decide), bd_v]
      by_cases c : D.Q k 4 ≤ dwV (gI h 224 2)
      · rw [if_pos (by rw [zi_le (by omega) (by omega) (by omega) (by omega)]; exact c), if_pos c]
      · rw [if_neg (by rw [zi_le (by omega) (by omega) (by omega) (by omega)]; exact c), if_neg c]
    · rw [if_neg t, if_pos rfl, if_neg t]
end
/-- both there are, and so -/
def z2 {α β : Type} (c : Option α) (r : Option β) (Q : α → β → Prop) : Prop := ∃ a b, c = some a ∧ r = some b ∧ Q a b
theorem z2_some {α β : Type} {a : α} {b : β} {Q : α → β → Prop} (h : Q a b) : z2 (some a) (some b) Q := ⟨a, b, rfl, rfl, h⟩
theorem z2_bd {α β γ δ : Type} {x : Option α} {y : Option β} {f : α → Option γ} {g : β → Option δ} {P : α → β → Prop} {Q : γ → δ → Prop} (hx : z2 x y P) (h : ∀ a b, P a b → z2 (f a) (g b) Q) : z2 (bd x f) (bd y g) Q := by
  obtain ⟨a, b, rfl, rfl, hp⟩ := hx
  exact h a b hp
theorem z2_mono {α β : Type} {c : Option α} {r : Option β} {P Q : α → β → Prop} (h : z2 c r P) (k : ∀ a b, P a b → Q a b) : z2 c r Q := by
  obtain ⟨a, b, h1, h2, h3⟩ := h
  exact ⟨a, b, h1, h2, k a b h3⟩
theorem z2_l {α γ δ : Type} {x : Option α} {a : α} {f : α → Option γ} {r : Option δ} {Q : γ → δ → Prop} (hx : x = some a) (h : z2 (f a) r Q) : z2 (bd x f) r Q := by
  subst hx
  exact h
theorem z2_r {β γ δ : Type} {y : Option β} {b : β} {g : β → Option δ} {c : Option γ} {Q : γ → δ → Prop} (hy : y = some b) (h : z2 c (g b) Q) : z2 c (bd y g) Q := by
  subst hy
  exact h
theorem z2_lz {α γ δ : Type} {x : Option α} {f : α → Option γ} {r : Option δ} {P : α → Prop} {Q : γ → δ → Prop} (hx : zw x P) (h : ∀ a, P a → z2 (f a) r Q) : z2 (bd x f) r Q := by
  obtain ⟨a, rfl, hp⟩ := hx
  exact h a hp
theorem z2_rz {β γ δ : Type} {y : Option β} {g : β → Option δ} {c : Option γ} {P : β → Prop} {Q : γ → δ → Prop} (hy : zw y P) (h : ∀ b, P b → z2 c (g b) Q) : z2 c (bd y g) Q := by
  obtain ⟨b, rfl, hp⟩ := hy
  exact h b hp
theorem z2_zz {α β : Type} {c : Option α} {r : Option β} {P : α → Prop} {R : β → Prop} {Q : α → β → Prop} (hc : zw c P) (hr : zw r R) (h : ∀ a b, P a → R b → Q a b) : z2 c r Q := by
  obtain ⟨a, rfl, ha⟩ := hc
  obtain ⟨b, rfl, hb⟩ := hr
  exact z2_some (h a b ha hb)
theorem z2_lt {α β : Type} {c : Prop} [Decidable c] {a b : Option α} {r : Option β} {Q : α → β → Prop} (hc : c) (h : z2 a r Q) : z2 (if c then a else b) r Q := by rw [if_pos hc]; exact h
theorem z2_lf {α β : Type} {c : Prop} [Decidable c] {a b : Option α} {r : Option β} {Q : α → β → Prop} (hc : ¬ c) (h : z2 b r Q) : z2 (if c then a else b) r Q := by rw [if_neg hc]; exact h
theorem z2_rt {α β : Type} {c : Prop} [Decidable c] {a b : Option β} {r : Option α} {Q : α → β → Prop} (hc : c) (h : z2 r a Q) : z2 r (if c then a else b) Q := by rw [if_pos hc]; exact h
theorem z2_rf {α β : Type} {c : Prop} [Decidable c] {a b : Option β} {r : Option α} {Q : α → β → Prop} (hc : ¬ c) (h : z2 r b Q) : z2 r (if c then a else b) Q := by rw [if_neg hc]; exact h
/-- two loops turn by turn -/
theorem z2_loop {σ ε τ θ : Type} {f : σ → AH → Option ((σ ⊕ ε) × AH)} {g : τ → AH → Option ((τ ⊕ θ) × AH)} (n : Nat) (P : Nat → σ → AH → τ → AH → Prop) {Q : ε × AH → θ × AH → Prop} (step : ∀ i s h t j, i ≤ n → P i s h t j → z2 (f s h) (g t j) (fun a b => (∃ s' t', a.1 = .inl s' ∧ b.1 = .inl t' ∧ i < n ∧ P (i + 1) s' a.2 t' b.2) ∨ (∃ e u, a.1 = .inr e ∧ b.1 = .inr u ∧ Q (e, a.2) (u, b.2)))) : ∀ (d i fu fv : Nat) (s : σ) (h : AH) (t : τ) (j : AH), i + d = n → d < fu → d < fv → P i s h t j → z2 (lpH f fu s h) (lpH g fv t j) Q := by
  intro d
  induction d with
  | zero =>
    intro i fu fv s h t j hi hf hg hp
    obtain ⟨u, rfl⟩ : ∃ u, fu = u + 1 := ⟨fu - 1, by omega⟩
    obtain ⟨v, rfl⟩ : ∃ v, fv = v + 1 := ⟨fv - 1, by omega⟩
    obtain ⟨⟨x, h1⟩, ⟨y, j1⟩, e1, e2, hr⟩ := step i s h t j (by omega) hp
    rcases hr with ⟨s', t', -, -, hlt, -⟩ | ⟨e, w, hx, hy, hq⟩
    · omega
    · refine ⟨(e, h1), (w, j1), ?_, ?_, hq⟩
      · unfold lpH
        dsimp only at hx
        rw [e1, hx]
      · unfold lpH
        dsimp only at hy
        rw [e2, hy]
  | succ d ih =>
    intro i fu fv s h t j hi hf hg hp
    obtain ⟨u, rfl⟩ : ∃ u, fu = u + 1 := ⟨fu - 1, by omega⟩
    obtain ⟨v, rfl⟩ : ∃ v, fv = v + 1 := ⟨fv - 1, by omega⟩
    obtain ⟨⟨x, h1⟩, ⟨y, j1⟩, e1, e2, hr⟩ := step i s h t j (by omega) hp
    rcases hr with ⟨s', t', hx, hy, -, hp'⟩ | ⟨e, w, hx, hy, hq⟩
    · obtain ⟨a, b, ea, eb, hz⟩ := ih (i + 1) u v s' h1 t' j1 (by omega) (by omega) (by omega) hp'
      refine ⟨a, b, ?_, ?_, hz⟩
      · unfold lpH
        dsimp only at hx
        rw [e1, hx]
        exact ea
      · unfold lpH
        dsimp only at hy
        rw [e2, hy]
        exact eb
    · refine ⟨(e, h1), (w, j1), ?_, ?_, hq⟩
      · unfold lpH
        dsimp only at hx
        rw [e1, hx]
      · unfold lpH
        dsimp only at hy
        rw [e2, hy]
theorem z2_lp {σ ε τ θ : Type} {f : σ → AH → Option ((σ ⊕ ε) × AH)} {g : τ → AH → Option ((τ ⊕ θ) × AH)} (n : Nat) (P : Nat → σ → AH → τ → AH → Prop) {Q : ε × AH → θ × AH → Prop} {s : σ} {h : AH} {t : τ} {j : AH} (hn : n < 10000) (h0 : P 0 s h t j) (step : ∀ i s h t j, i ≤ n → P i s h t j → z2 (f s h) (g t j) (fun a b => (∃ s' t', a.1 = .inl s' ∧ b.1 = .inl t' ∧ i < n ∧ P (i + 1) s' a.2 t' b.2) ∨ (∃ e u, a.1 = .inr e ∧ b.1 = .inr u ∧ Q (e, a.2) (u, b.2)))) : z2 (lpH f FU s h) (lpH g FU t j) Q := z2_loop n P step n 0 FU FU s h t j (by omega) hn hn h0
/-- counted -/
theorem z2_for {σ ε τ θ : Type} {f : σ → AH → Option ((σ ⊕ ε) × AH)} {g : τ → AH → Option ((τ ⊕ θ) × AH)} (n : Nat) (P : Nat → σ → AH → τ → AH → Prop) {Q : ε × AH → θ × AH → Prop} {s : σ} {h : AH} {t : τ} {j : AH} (hn : n < 10000) (h0 : P 0 s h t j) (step : ∀ i s h t j, i < n → P i s h t j → z2 (f s h) (g t j) (fun a b => ∃ s' t', a.1 = .inl s' ∧ b.1 = .inl t' ∧ P (i + 1) s' a.2 t' b.2)) (fin : ∀ s h t j, P n s h t j → z2 (f s h) (g t j) (fun a b => ∃ e u, a.1 = .inr e ∧ b.1 = .inr u ∧ Q (e, a.2) (u, b.2))) : z2 (lpH f FU s h) (lpH g FU t j) Q := by
  refine z2_lp n P hn h0 ?_
  intro i s h t j hi hp
  rcases Nat.lt_or_ge i n with q | q
  · refine z2_mono (step i s h t j q hp) ?_
    rintro a b ⟨s', t', h1, h2, h3⟩
    exact Or.inl ⟨s', t', h1, h2, q, h3⟩
  · have : i = n := by omega
    subst this
    exact z2_mono (fin s h t j hp) (fun a b z => Or.inr z)
