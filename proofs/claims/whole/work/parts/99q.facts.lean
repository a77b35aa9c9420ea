/-! 99q.facts: what the law's start gives: classes, rows, texts, statics -/
section
variable {A : Array Value} {s : State}
def tmS (i : Nat) : Term := Term.string RX3 (strI.getD i 0)
abbrev st0 : List Cond := flatC (Jvm.Cond.and given_1 narrow_1)
theorem q_ex : ∀ i, i < 19 → Cond.exactly (tmS i) "java/lang/String" ∈ st0 := by decide +kernel
theorem q_co : ∀ i, i < 19 → Cond.eq (.field (tmS i) "java/lang/String" "coder" "B") (.int 0) ∈ st0 := by decide +kernel
theorem q_ar : ∀ i, i < 19 → Cond.arrayOf (.field (tmS i) "java/lang/String" "value" "[B") .byte ∈ st0 := by decide +kernel
theorem q_le : ∀ i, i < 19 → Cond.eq (.length (.field (tmS i) "java/lang/String" "value" "[B")) (.int (Int32.ofNat (strL.getD i 0))) ∈ st0 := by decide +kernel
theorem q_el : ∀ i, i < 19 → ∀ j, j < strL.getD i 0 → Cond.eq (.elem (.field (tmS i) "java/lang/String" "value" "[B") (.int (Int32.ofNat j))) (.int ((strB.getD i []).getD j 0)) ∈ st0 := by decide +kernel
theorem q_ne_1 : ∀ i, i < 1 → st0[54 + i]? = some (Cond.not (Cond.eq (tmS i) (tmS 1))) := by decide +kernel
theorem q_ne_2 : ∀ i, i < 2 → st0[66 + i]? = some (Cond.not (Cond.eq (tmS i) (tmS 2))) := by decide +kernel
theorem q_ne_3 : ∀ i, i < 3 → st0[76 + i]? = some (Cond.not (Cond.eq (tmS i) (tmS 3))) := by decide +kernel
theorem q_ne_4 : ∀ i, i < 4 → st0[89 + i]? = some (Cond.not (Cond.eq (tmS i) (tmS 4))) := by decide +kernel
theorem q_ne_5 : ∀ i, i < 5 → st0[102 + i]? = some (Cond.not (Cond.eq (tmS i) (tmS 5))) := by decide +kernel
theorem q_ne_6 : ∀ i, i < 6 → st0[117 + i]? = some (Cond.not (Cond.eq (tmS i) (tmS 6))) := by decide +kernel
theorem q_ne_7 : ∀ i, i < 7 → st0[130 + i]? = some (Cond.not (Cond.eq (tmS i) (tmS 7))) := by decide +kernel
theorem q_ne_8 : ∀ i, i < 8 → st0[146 + i]? = some (Cond.not (Cond.eq (tmS i) (tmS 8))) := by decide +kernel
theorem q_ne_9 : ∀ i, i < 9 → st0[163 + i]? = some (Cond.not (Cond.eq (tmS i) (tmS 9))) := by decide +kernel
theorem q_ne_10 : ∀ i, i < 10 → st0[181 + i]? = some (Cond.not (Cond.eq (tmS i) (tmS 10))) := by decide +kernel
theorem q_ne_11 : ∀ i, i < 11 → st0[200 + i]? = some (Cond.not (Cond.eq (tmS i) (tmS 11))) := by decide +kernel
theorem q_ne_12 : ∀ i, i < 12 → st0[220 + i]? = some (Cond.not (Cond.eq (tmS i) (tmS 12))) := by decide +kernel
theorem q_ne_13 : ∀ i, i < 13 → st0[240 + i]? = some (Cond.not (Cond.eq (tmS i) (tmS 13))) := by decide +kernel
theorem q_ne_14 : ∀ i, i < 14 → st0[261 + i]? = some (Cond.not (Cond.eq (tmS i) (tmS 14))) := by decide +kernel
theorem q_ne_15 : ∀ i, i < 15 → st0[282 + i]? = some (Cond.not (Cond.eq (tmS i) (tmS 15))) := by decide +kernel
theorem q_ne_16 : ∀ i, i < 16 → st0[304 + i]? = some (Cond.not (Cond.eq (tmS i) (tmS 16))) := by decide +kernel
theorem q_ne_17 : ∀ i, i < 17 → st0[326 + i]? = some (Cond.not (Cond.eq (tmS i) (tmS 17))) := by decide +kernel
theorem q_ne_18 : ∀ i, i < 18 → st0[352 + i]? = some (Cond.not (Cond.eq (tmS i) (tmS 18))) := by decide +kernel
theorem q_ne2 {i j : Nat} (hj : j < 19) (hi : i < j) : Cond.not (Cond.eq (tmS i) (tmS j)) ∈ st0 := by
  match j, hj, hi with
  | 1, _, hi => exact List.mem_of_getElem? (q_ne_1 i hi)
  | 2, _, hi => exact List.mem_of_getElem? (q_ne_2 i hi)
  | 3, _, hi => exact List.mem_of_getElem? (q_ne_3 i hi)
  | 4, _, hi => exact List.mem_of_getElem? (q_ne_4 i hi)
  | 5, _, hi => exact List.mem_of_getElem? (q_ne_5 i hi)
  | 6, _, hi => exact List.mem_of_getElem? (q_ne_6 i hi)
  | 7, _, hi => exact List.mem_of_getElem? (q_ne_7 i hi)
  | 8, _, hi => exact List.mem_of_getElem? (q_ne_8 i hi)
  | 9, _, hi => exact List.mem_of_getElem? (q_ne_9 i hi)
  | 10, _, hi => exact List.mem_of_getElem? (q_ne_10 i hi)
  | 11, _, hi => exact List.mem_of_getElem? (q_ne_11 i hi)
  | 12, _, hi => exact List.mem_of_getElem? (q_ne_12 i hi)
  | 13, _, hi => exact List.mem_of_getElem? (q_ne_13 i hi)
  | 14, _, hi => exact List.mem_of_getElem? (q_ne_14 i hi)
  | 15, _, hi => exact List.mem_of_getElem? (q_ne_15 i hi)
  | 16, _, hi => exact List.mem_of_getElem? (q_ne_16 i hi)
  | 17, _, hi => exact List.mem_of_getElem? (q_ne_17 i hi)
  | 18, _, hi => exact List.mem_of_getElem? (q_ne_18 i hi)
  | n + 19, hj, _ => exact absurd hj (by omega)
theorem q_ne : ∀ i j : Nat, i < 19 → j < 19 → i ≠ j → Cond.not (Cond.eq (tmS i) (tmS j)) ∈ st0 ∨ Cond.not (Cond.eq (tmS j) (tmS i)) ∈ st0 := by
  intro i j hi hj h
  rcases Nat.lt_or_ge i j with q | q
  · exact Or.inl (q_ne2 hj q)
  · exact Or.inr (q_ne2 hi (by omega))
theorem q_len : ∀ i, i < 19 → strL.getD i 0 < 2 ^ 31 := by decide +kernel
theorem q_st : ∀ i, i < 19 → Cond.stringRef RX3 (strI.getD i 0) (strT.getD i "") ∈ lw_tbl := by decide +kernel
theorem q_fx : ∀ w ∈ fxW, w.onTables = true := by decide +kernel
theorem q_us : Cond.isRef (.static Bundle.tN "UNASSIGNED_STACK" Bundle.steD) ∈ st0 := by decide +kernel
theorem q_ss : Cond.isRef (.static Bundle.tN "SUPPRESSED_SENTINEL" Bundle.listD) ∈ st0 := by decide +kernel
theorem q_cs : Cond.eq (.static "java/lang/String" "COMPACT_STRINGS" "Z") (.int 1) ∈ st0 := by decide +kernel
theorem q_fo : Cond.isRef (.static "jdk/internal/util/Preconditions" "SIOOBE_FORMATTER" "Ljava/util/function/BiFunction;") ∈ st0 := by decide +kernel
theorem q_nc : Cond.not (.castable "java/lang/IllegalArgumentException" "java/util/NoSuchElementException") ∈ st0 := by decide +kernel
theorem q_l1 : Cond.laysStatic Bundle.tN "UNASSIGNED_STACK" Bundle.steD ∈ lw_tbl := by decide +kernel
theorem q_l2 : Cond.laysStatic Bundle.tN "SUPPRESSED_SENTINEL" Bundle.listD ∈ lw_tbl := by decide +kernel
theorem q_l3 : Cond.laysStatic "java/lang/String" "COMPACT_STRINGS" "Z" ∈ lw_tbl := by decide +kernel
theorem q_l4 : Cond.laysStatic "jdk/internal/util/Preconditions" "SIOOBE_FORMATTER" "Ljava/util/function/BiFunction;" ∈ lw_tbl := by decide +kernel
theorem q_i1 : Cond.initialized Bundle.tN ∈ lw_tbl := by decide +kernel
theorem q_i3 : Cond.initialized "java/lang/String" ∈ lw_tbl := by decide +kernel
theorem q_i4 : Cond.initialized "jdk/internal/util/Preconditions" ∈ lw_tbl := by decide +kernel
theorem q_ao : Cond.arrayOver (.object "SeatHall$Plan") ∈ lw_tbl := by decide +kernel
theorem q_ai : Cond.arrayClass .int ∈ lw_tbl := by decide +kernel
theorem q_al : Cond.arrayClass .long ∈ lw_tbl := by decide +kernel
theorem q_az : Cond.arrayClass .boolean ∈ lw_tbl := by decide +kernel
theorem q_kw : ∀ ci, ci < 11 → ∀ w ∈ u_ws (clC ci) (clT ci) (clN ci), w ∈ lw_tbl := by decide +kernel
theorem q_ki : ∀ ci, ci < 11 → Cond.instantiable (clC ci) (clN ci) ∈ lw_tbl := by decide +kernel
end
