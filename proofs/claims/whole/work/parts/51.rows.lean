/-! 51.rows: at, put, atWide, putWide, fillRow, fillWide, copyRow as functions of the heap; which rows a hall and a plan have -/
theorem zi_ofNat (n : Nat) : Int32.ofNat n = zi n := Int32.ofInt_eq_ofNat.symm
theorem alen_i {a n : Nat} (hL : LAY a = (1, n)) : alenF a = some (zi n) := by
  unfold alenF
  rw [hL, if_pos (Or.inl rfl), zi_ofNat]
theorem alen_l {a n : Nat} (hL : LAY a = (2, n)) : alenF a = some (zi n) := by
  unfold alenF
  rw [hL, if_pos (Or.inr (Or.inl rfl)), zi_ofNat]
theorem alen_r {a n : Nat} (hL : LAY a = (4, n)) : alenF a = some (zi n) := by
  unfold alenF
  rw [hL, if_pos (Or.inr (Or.inr (Or.inr rfl))), zi_ofNat]
theorem at_ok {h : AH} {a n : Nat} {x : Int32} (i : Nat) (hL : LAY a = (1, n)) (hx : x = zi i) (hi : i < n) (hn : Nat.ble n 100000 = true := by rfl) : s_X9_at (some a) x h = some (gI h a i) := by
  have hn' := Nat.le_of_ble_eq_true hn
  unfold s_X9_at
  rw [mt_so, alen_i hL, bd_v, ldI_ok i hL hx hi hn, bd_v, hx, if_neg, if_neg]
  · rw [zi_le (by omega) (by omega) (by omega) (by omega)]; omega
  · rw [(show (0 : Int32) = zi 0 from zi_lit 0), zi_lt (by omega) (by omega) (by omega) (by omega)]; show ¬ (i : Int) < 0; omega
theorem at_lo {h : AH} {a : Nat} {x : Int32} (i : Int) (hx : x = zi i) (h1 : -2147483648 ≤ i) (h2 : i < 0) : s_X9_at (some a) x h = some 0 := by
  unfold s_X9_at
  rw [mt_so, hx, if_pos]
  rw [(show (0 : Int32) = zi 0 from zi_lit 0), zi_lt (by omega) (by omega) (by omega) (by omega)]; show i < 0; omega
theorem at_hi {h : AH} {a n : Nat} {x : Int32} (i : Int) (hL : LAY a = (1, n)) (hx : x = zi i) (h1 : n ≤ i) (h2 : i < 2147483648) (hn : Nat.ble n 100000 = true := by rfl) : s_X9_at (some a) x h = some 0 := by
  have hn' := Nat.le_of_ble_eq_true hn
  unfold s_X9_at
  rw [mt_so, alen_i hL, bd_v, hx, if_neg, if_pos]
  · rw [zi_le (by omega) (by omega) (by omega) (by omega)]; omega
  · rw [(show (0 : Int32) = zi 0 from zi_lit 0), zi_lt (by omega) (by omega) (by omega) (by omega)]; show ¬ (i : Int) < 0; omega
theorem put_ok {h : AH} {a n : Nat} {x v : Int32} (i : Nat) (hL : LAY a = (1, n)) (hx : x = zi i) (hi : i < n) (hn : Nat.ble n 100000 = true := by rfl) : s_X9_put (some a) x v h = some ((), sI h a i v) := by
  have hn' := Nat.le_of_ble_eq_true hn
  unfold s_X9_put
  rw [mt_so, alen_i hL, bd_v, stI_ok i hL hx hi hn, bd_v, hx, if_neg, if_neg]
  · rw [zi_le (by omega) (by omega) (by omega) (by omega)]; omega
  · rw [(show (0 : Int32) = zi 0 from zi_lit 0), zi_lt (by omega) (by omega) (by omega) (by omega)]; show ¬ (i : Int) < 0; omega
theorem put_out {h : AH} {a n : Nat} {x v : Int32} (i : Int) (hL : LAY a = (1, n)) (hx : x = zi i) (h1 : -2147483648 ≤ i) (h2 : i < 2147483648) (hi : i < 0 ∨ n ≤ i) (hn : Nat.ble n 100000 = true := by rfl) : s_X9_put (some a) x v h = some ((), h) := by
  have hn' := Nat.le_of_ble_eq_true hn
  unfold s_X9_put
  rw [mt_so, alen_i hL, bd_v, hx]
  by_cases c : i < 0
  · rw [if_pos]
    rw [(show (0 : Int32) = zi 0 from zi_lit 0), zi_lt (by omega) (by omega) (by omega) (by omega)]; exact c
  · rw [if_neg, if_pos]
    · rw [zi_le (by omega) (by omega) (by omega) (by omega)]; omega
    · rw [(show (0 : Int32) = zi 0 from zi_lit 0), zi_lt (by omega) (by omega) (by omega) (by omega)]; exact c
theorem atW_ok {h : AH} {a n : Nat} {x : Int32} (i : Nat) (hL : LAY a = (2, n)) (hx : x = zi i) (hi : i < n) (hn : Nat.ble n 100000 = true := by rfl) : s_X9_atWide (some a) x h = some (gL h a i) := by
  have hn' := Nat.le_of_ble_eq_true hn
  unfold s_X9_atWide
  rw [mt_so, alen_l hL, bd_v, ldL_ok i hL hx hi hn, bd_v, hx, if_neg, if_neg]
  · rw [zi_le (by omega) (by omega) (by omega) (by omega)]; omega
  · rw [(show (0 : Int32) = zi 0 from zi_lit 0), zi_lt (by omega) (by omega) (by omega) (by omega)]; show ¬ (i : Int) < 0; omega
theorem atW_lo {h : AH} {a : Nat} {x : Int32} (i : Int) (hx : x = zi i) (h1 : -2147483648 ≤ i) (h2 : i < 0) : s_X9_atWide (some a) x h = some 0 := by
  unfold s_X9_atWide
  rw [mt_so, hx, if_pos]
  rw [(show (0 : Int32) = zi 0 from zi_lit 0), zi_lt (by omega) (by omega) (by omega) (by omega)]; show i < 0; omega
theorem putW_ok {h : AH} {a n : Nat} {x : Int32} {v : Int64} (i : Nat) (hL : LAY a = (2, n)) (hx : x = zi i) (hi : i < n) (hn : Nat.ble n 100000 = true := by rfl) : s_X9_putWide (some a) x v h = some ((), sL h a i v) := by
  have hn' := Nat.le_of_ble_eq_true hn
  unfold s_X9_putWide
  rw [mt_so, alen_l hL, bd_v, stL_ok i hL hx hi hn, bd_v, hx, if_neg, if_neg]
  · rw [zi_le (by omega) (by omega) (by omega) (by omega)]; omega
  · rw [(show (0 : Int32) = zi 0 from zi_lit 0), zi_lt (by omega) (by omega) (by omega) (by omega)]; show ¬ (i : Int) < 0; omega
theorem fill_ok {h : AH} {a n : Nat} {v : Int32} (hL : LAY a = (1, n)) (hn : Nat.ble n 9000 = true := by rfl) : zw (s_X9_fillRow (some a) v h) (fun r => Fr (fun b _ => b = a) h r.2 ∧ ∀ i, i < n → gI r.2 a i = v) := by
  have hn' := Nat.le_of_ble_eq_true hn
  unfold s_X9_fillRow
  refine zw_bd (P := fun y => Fr (fun b _ => b = a) h y.2 ∧ ∀ i, i < n → gI y.2 a i = v) ?_ (fun y hy => zw_some hy)
  refine zw_for n (fun i => zi i) () (fun i h' => Fr (fun b _ => b = a) h h' ∧ ∀ j, j < i → gI h' a j = v) (by omega) rfl ⟨Fr.refl _ _, fun j hj => by omega⟩ ?_ ?_
  · rintro i h' hi ⟨hf, hv⟩
    unfold l_X9_fillRow_2
    rw [mt_so, alen_i hL, bd_v, if_neg (by rw [zi_le (by omega) (by omega) (by omega) (by omega)]; omega), stI_ok i hL rfl hi (Nat.ble_eq_true_of_le (by omega)), bd_v]
    refine zw_some ⟨?_, hf.sI rfl, fun j hj => ?_⟩
    · show (Sum.inl (zi (i : Int) + 1) : Int32 ⊕ Unit) = .inl (zi ((i + 1 : Nat) : Int))
      rw [(show (1 : Int32) = zi 1 from zi_lit 1), zi_add]; rfl
    · show gI (sI h' a i v) a j = v
      rw [gI_sI]
      split
      · rfl
      · rename_i hne
        exact hv j (by have : j ≠ i := fun z => hne ⟨rfl, z⟩
                       omega)
  · rintro h' ⟨hf, hv⟩
    unfold l_X9_fillRow_2
    rw [mt_so, alen_i hL, bd_v, if_pos (by rw [zi_le (by omega) (by omega) (by omega) (by omega)]; omega)]
    exact zw_some ⟨rfl, hf, hv⟩
theorem fillW_ok {h : AH} {a n : Nat} {v : Int64} (hL : LAY a = (2, n)) (hn : Nat.ble n 9000 = true := by rfl) : zw (s_X9_fillWide (some a) v h) (fun r => Fr (fun b _ => b = a) h r.2 ∧ ∀ i, i < n → gL r.2 a i = v) := by
  have hn' := Nat.le_of_ble_eq_true hn
  unfold s_X9_fillWide
  refine zw_bd (P := fun y => Fr (fun b _ => b = a) h y.2 ∧ ∀ i, i < n → gL y.2 a i = v) ?_ (fun y hy => zw_some hy)
  refine zw_for n (fun i => zi i) () (fun i h' => Fr (fun b _ => b = a) h h' ∧ ∀ j, j < i → gL h' a j = v) (by omega) rfl ⟨Fr.refl _ _, fun j hj => by omega⟩ ?_ ?_
  · rintro i h' hi ⟨hf, hv⟩
    unfold l_X9_fillWide_2
    rw [mt_so, alen_l hL, bd_v, if_neg (by rw [zi_le (by omega) (by omega) (by omega) (by omega)]; omega), stL_ok i hL rfl hi (Nat.ble_eq_true_of_le (by omega)), bd_v]
    refine zw_some ⟨?_, hf.sL rfl, fun j hj => ?_⟩
    · show (Sum.inl (zi (i : Int) + 1) : Int32 ⊕ Unit) = .inl (zi ((i + 1 : Nat) : Int))
      rw [(show (1 : Int32) = zi 1 from zi_lit 1), zi_add]; rfl
    · show gL (sL h' a i v) a j = v
      rw [gL_sL]
      split
      · rfl
      · rename_i hne
        exact hv j (by have : j ≠ i := fun z => hne ⟨rfl, z⟩
                       omega)
  · rintro h' ⟨hf, hv⟩
    unfold l_X9_fillWide_2
    rw [mt_so, alen_l hL, bd_v, if_pos (by rw [zi_le (by omega) (by omega) (by omega) (by omega)]; omega)]
    exact zw_some ⟨rfl, hf, hv⟩
theorem copy_ok {h : AH} {a b n : Nat} (hab : a ≠ b) (hL : LAY a = (1, n)) (hM : LAY b = (1, n)) (hn : Nat.ble n 9000 = true := by rfl) : zw (s_X9_copyRow (some a) (some b) h) (fun r => Fr (fun c _ => c = b) h r.2 ∧ ∀ i, i < n → gI r.2 b i = gI h a i) := by
  have hn' := Nat.le_of_ble_eq_true hn
  unfold s_X9_copyRow
  refine zw_bd (P := fun y => Fr (fun c _ => c = b) h y.2 ∧ ∀ i, i < n → gI y.2 b i = gI h a i) ?_ (fun y hy => zw_some hy)
  refine zw_for n (fun i => zi i) () (fun i h' => Fr (fun c _ => c = b) h h' ∧ ∀ j, j < i → gI h' b j = gI h a j) (by omega) rfl ⟨Fr.refl _ _, fun j hj => by omega⟩ ?_ ?_
  · rintro i h' hi ⟨hf, hv⟩
    unfold l_X9_copyRow_2
    rw [mt_so, mt_so, alen_i hL, bd_v, if_neg (by rw [zi_le (by omega) (by omega) (by omega) (by omega)]; omega), alen_i hM, bd_v, if_neg (by rw [zi_le (by omega) (by omega) (by omega) (by omega)]; omega), ldI_ok i hL rfl hi (Nat.ble_eq_true_of_le (by omega)), bd_v, stI_ok i hM rfl hi (Nat.ble_eq_true_of_le (by omega)), bd_v]
    refine zw_some ⟨?_, hf.sI rfl, fun j hj => ?_⟩
    · show (Sum.inl (zi (i : Int) + 1) : Int32 ⊕ Unit) = .inl (zi ((i + 1 : Nat) : Int))
      rw [(show (1 : Int32) = zi 1 from zi_lit 1), zi_add]; rfl
    · show gI (sI h' b i (gI h' a i)) b j = gI h a j
      rw [gI_sI]
      split
      · rename_i he
        rw [he.2]
        exact hf.i hab
      · rename_i hne
        exact hv j (by have : j ≠ i := fun z => hne ⟨rfl, z⟩
                       omega)
  · rintro h' ⟨hf, hv⟩
    unfold l_X9_copyRow_2
    rw [mt_so, mt_so, alen_i hL, bd_v, if_pos (by rw [zi_le (by omega) (by omega) (by omega) (by omega)]; omega)]
    exact zw_some ⟨rfl, hf, hv⟩
theorem copies_ok {h : AH} {a b n : Nat} (hab : a ≠ b) (hL : LAY a = (1, n)) (hM : LAY b = (1, n)) (hn : Nat.ble n 9000 = true := by rfl) : zw (s_X10_copies (some a) (some b) h) (fun r => Fr (fun c _ => c = b) h r.2 ∧ ∀ i, i < n → gI r.2 b i = gI h a i) := by
  have hn' := Nat.le_of_ble_eq_true hn
  unfold s_X10_copies
  refine zw_bd (P := fun y => Fr (fun c _ => c = b) h y.2 ∧ ∀ i, i < n → gI y.2 b i = gI h a i) ?_ (fun y hy => zw_some hy)
  refine zw_for n (fun i => zi i) () (fun i h' => Fr (fun c _ => c = b) h h' ∧ ∀ j, j < i → gI h' b j = gI h a j) (by omega) rfl ⟨Fr.refl _ _, fun j hj => by omega⟩ ?_ ?_
  · rintro i h' hi ⟨hf, hv⟩
    unfold l_X10_copies_2
    rw [bd_v, alen_i hL, bd_v, if_neg (by rw [zi_le (by omega) (by omega) (by omega) (by omega)]; omega), ldI_ok i hL rfl hi (Nat.ble_eq_true_of_le (by omega)), bd_v, bd_v, stI_ok i hM rfl hi (Nat.ble_eq_true_of_le (by omega)), bd_v]
    refine zw_some ⟨?_, hf.sI rfl, fun j hj => ?_⟩
    · show (Sum.inl (zi (i : Int) + 1) : Int32 ⊕ Unit) = .inl (zi ((i + 1 : Nat) : Int))
      rw [(show (1 : Int32) = zi 1 from zi_lit 1), zi_add]; rfl
    · show gI (sI h' b i (gI h' a i)) b j = gI h a j
      rw [gI_sI]
      split
      · rename_i he
        rw [he.2]
        exact hf.i hab
      · rename_i hne
        exact hv j (by have : j ≠ i := fun z => hne ⟨rfl, z⟩
                       omega)
  · rintro h' ⟨hf, hv⟩
    unfold l_X10_copies_2
    rw [bd_v, alen_i hL, bd_v, if_pos (by rw [zi_le (by omega) (by omega) (by omega) (by omega)]; omega)]
    exact zw_some ⟨rfl, hf, hv⟩
/-- a told hall stands at T -/
def TL (T : Nat) : Prop := T = 5 ∨ T = 15 ∨ T = 232
theorem TL.l {T : Nat} (h : TL T) : LAY T = (0, 8) ∧ LAY (T + 1) = (1, 48) ∧ LAY (T + 2) = (1, 16) ∧ LAY (T + 3) = (1, 66) ∧ LAY (T + 4) = (1, 6) ∧ LAY (T + 5) = (1, 4) ∧ LAY (T + 6) = (1, 4) ∧ LAY (T + 7) = (1, 5) := by
  rcases h with rfl | rfl | rfl <;> decide +kernel
theorem TL.l0 {T : Nat} (h : TL T) : LAY T = (0, 8) := h.l.1
theorem TL.l1 {T : Nat} (h : TL T) : LAY (T + 1) = (1, 48) := h.l.2.1
theorem TL.l2 {T : Nat} (h : TL T) : LAY (T + 2) = (1, 16) := h.l.2.2.1
theorem TL.l3 {T : Nat} (h : TL T) : LAY (T + 3) = (1, 66) := h.l.2.2.2.1
theorem TL.l4 {T : Nat} (h : TL T) : LAY (T + 4) = (1, 6) := h.l.2.2.2.2.1
theorem TL.l5 {T : Nat} (h : TL T) : LAY (T + 5) = (1, 4) := h.l.2.2.2.2.2.1
theorem TL.l6 {T : Nat} (h : TL T) : LAY (T + 6) = (1, 4) := h.l.2.2.2.2.2.2.1
theorem TL.l7 {T : Nat} (h : TL T) : LAY (T + 7) = (1, 5) := h.l.2.2.2.2.2.2.2
theorem TL.b {T : Nat} (h : TL T) : T = 5 ∨ T = 15 ∨ T = 232 := h
/-- how many cases by k a ticket's plan has -/
def cs (t : Nat) : Nat := if t = 2 then 13 else 1
/-- a plan with the ticket t stands at p -/
def PL (t p : Nat) : Prop := (p = 23 ∧ t = 3) ∨ ∃ k, k < 6 ∧ t < 5 ∧ p = 31 + 6 * (5 * k + t)
theorem lay_plan : ∀ k, k < 6 → ∀ t, t < 5 → (LAY (31 + 6 * (5 * k + t)) = (0, 2) ∧ LAY (31 + 6 * (5 * k + t) + 1) = (1, 16) ∧ LAY (31 + 6 * (5 * k + t) + 2) = (2, 16) ∧ LAY (31 + 6 * (5 * k + t) + 3) = (2, 17) ∧ LAY (31 + 6 * (5 * k + t) + 4) = (2, 16 * cs t) ∧ LAY (31 + 6 * (5 * k + t) + 5) = (2, 33 * cs t)) := by decide +kernel
theorem PL.l {t p : Nat} (h : PL t p) : LAY p = (0, 2) ∧ LAY (p + 1) = (1, 16) ∧ LAY (p + 2) = (2, 16) ∧ LAY (p + 3) = (2, 17) ∧ LAY (p + 4) = (2, 16 * cs t) ∧ LAY (p + 5) = (2, 33 * cs t) := by
  rcases h with ⟨rfl, rfl⟩ | ⟨k, hk, ht, rfl⟩
  · decide +kernel
  · exact lay_plan k hk t ht
theorem PL.l0 {t p : Nat} (h : PL t p) : LAY p = (0, 2) := h.l.1
theorem PL.l1 {t p : Nat} (h : PL t p) : LAY (p + 1) = (1, 16) := h.l.2.1
theorem PL.l2 {t p : Nat} (h : PL t p) : LAY (p + 2) = (2, 16) := h.l.2.2.1
theorem PL.l3 {t p : Nat} (h : PL t p) : LAY (p + 3) = (2, 17) := h.l.2.2.2.1
theorem PL.l4 {t p : Nat} (h : PL t p) : LAY (p + 4) = (2, 16 * cs t) := h.l.2.2.2.2.1
theorem PL.l5 {t p : Nat} (h : PL t p) : LAY (p + 5) = (2, 33 * cs t) := h.l.2.2.2.2.2
theorem PL.t {t p : Nat} (h : PL t p) : t < 5 := by
  rcases h with ⟨-, rfl⟩ | ⟨k, -, ht, -⟩
  · decide
  · exact ht
theorem PL.b {t p : Nat} (h : PL t p) : (23 ≤ p ∧ p ≤ 23) ∨ (31 ≤ p ∧ p ≤ 205) := by
  rcases h with ⟨rfl, -⟩ | ⟨k, hk, ht, rfl⟩
  · exact Or.inl ⟨Nat.le_refl _, Nat.le_refl _⟩
  · right; omega
theorem PL.of {k t : Nat} (hk : k < 6) (ht : t < 5) : PL t (31 + 6 * (5 * k + t)) := Or.inr ⟨k, hk, ht, rfl⟩
theorem PL.sp : PL 3 23 := Or.inl ⟨rfl, rfl⟩
theorem cs_le (t : Nat) : 1 ≤ cs t ∧ cs t ≤ 13 := by
  unfold cs
  split <;> omega
