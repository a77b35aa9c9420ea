/-! 99o.pass: every final reference stands in its place; from the constructors' phase to the law's -/
def finB (a : Nat) : Bool := match LAY a with
  | (0, ci) => (List.range (FT ci).length).all fun k => Nat.ble ((FT ci).getD k (0, 0)).1 2 || (gR hS0 a k == some (a + ((FT ci).getD k (0, 0)).2))
  | _ => true
theorem fin_all : (List.range 278).all finB = true := by decide +kernel
theorem fin_at {a ci k : Nat} (ha : a < 278) (hl : LAY a = (0, ci)) (hk : k < (FT ci).length) (hq : 2 < ((FT ci).getD k (0, 0)).1) : gR hS0 a k = some (a + ((FT ci).getD k (0, 0)).2) := by
  have h := List.all_eq_true.mp fin_all a (List.mem_range.mpr ha)
  unfold finB at h
  rw [hl] at h
  have h2 := List.all_eq_true.mp h k (List.mem_range.mpr hk)
  rcases Bool.or_eq_true_iff.mp h2 with q | q
  · exact absurd (Nat.le_of_ble_eq_true q) (by omega)
  · exact eq_of_beq q
def gTrue (g : GP) : GP := (g.1, g.2.1, g.2.2.1, (g.2.2.2.1.1, true), g.2.2.2.2.1, g.2.2.2.2.2)
theorem entry_true {g : GP} (hF : gF g = false) {a : Nat} (ha : a < 278) : entry g hS0 a = entry (gTrue g) hS0 a := by
  unfold entry entryR
  rcases hl : LAY a with ⟨t, ci⟩
  match t, hl with
  | 0, hl =>
    show Sum.inr (ci, fieldsV g _ _ _ a ci) = Sum.inr (ci, fieldsV (gTrue g) _ _ _ a ci)
    congr 2
    unfold fieldsV
    refine List.map_congr_left fun k hk => ?_
    have hk' := List.mem_range.mp hk
    have hq := fin_at (k := k) ha hl hk'
    generalize (FT ci).getD k (0, 0) = q at hq
    obtain ⟨q1, q2⟩ := q
    unfold fieldV
    match q1, hq with
    | 0, _ => rfl
    | 1, _ => rfl
    | 2, _ => rfl
    | n + 3, hq =>
      have e : (hS0.2.2 a k) = some (a + q2) := hq (by show 2 < n + 3; omega)
      dsimp only
      rw [hF, e]
      rfl
  | 1, _ => rfl
  | 2, _ => rfl
  | 3, _ => rfl
  | n + 4, _ => rfl
theorem pass_true {g : GP} (hF : gF g = false) {X : MX} {Q : State → Prop} {nc ns pc : Nat} {lv : List Value} (kk : AR (gTrue g) X nc ns Q hS0 pc lv []) : AW g X 278 true nc ns Q hS0 pc lv [] := by
  intro ls H locs hl hW hS
  refine kk ls H locs hl ⟨?_, hW.2.1, fun z => by cases z⟩ hS
  have e : wsOf (gTrue g) NT hS0 = wsOf g 278 hS0 := by
    unfold wsOf
    refine List.map_congr_left fun a ha => ?_
    rw [entry_true hF (List.mem_range.mp ha)]
    rfl
  rw [e]
  exact hW.1
