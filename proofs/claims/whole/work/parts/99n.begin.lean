/-! the law's start, by program (ctor3.py) -/
theorem wg_0 : (Cond.code yX9_init cX9_init 1 none) ∈ W0 := wt1 _ (List.mem_of_getElem? (i := 26) rfl) rfl
theorem wg_1 : (Cond.initialized RX9) ∈ W0 := wt1 _ (List.mem_of_getElem? (i := 1) rfl) rfl
theorem mi_X9_init : MI yX9_init cX9_init 1 none 0 := ⟨wg_0, wg_1, by decide +kernel, by decide⟩
theorem wg_2 : (Cond.code yX10_init cX10_init 2 none) ∈ W0 := wt6 _ (List.mem_of_getElem? (i := 58) rfl) rfl
theorem wg_3 : (Cond.initialized RX10) ∈ W0 := wt1 _ (List.mem_of_getElem? (i := 11) rfl) rfl
theorem mi_X10_init : MI yX10_init cX10_init 2 none 0 := ⟨wg_2, wg_3, by decide +kernel, by decide⟩
theorem wg_4 : (Cond.classLink RL 8 (clC 9)) ∈ W0 := wt1 _ (List.mem_of_getElem? (i := 22) rfl) rfl
theorem wg_5 : (Cond.instantiable (clC 9) (clN 9)) ∈ W0 := wt1 _ (List.mem_of_getElem? (i := 23) rfl) rfl
theorem wg_6 : (Cond.initialized (clC 9)) ∈ W0 := wt1 _ (List.mem_of_getElem? (i := 1) rfl) rfl
theorem wg_7 : (Cond.methodLink RL 91 yX9_init) ∈ W0 := wt1 _ (List.mem_of_getElem? (i := 24) rfl) rfl
theorem wg_8 : (Cond.methodLink RL 94 yX10_init) ∈ W0 := wt6 _ (List.mem_of_getElem? (i := 56) rfl) rfl
theorem wg_9 : (Cond.instanceMethod yX9_init) ∈ W0 := wt1 _ (List.mem_of_getElem? (i := 25) rfl) rfl
theorem wg_10 : (Cond.classLink RL 92 (clC 10)) ∈ W0 := wt6 _ (List.mem_of_getElem? (i := 54) rfl) rfl
theorem wg_11 : (Cond.instantiable (clC 10) (clN 10)) ∈ W0 := wt6 _ (List.mem_of_getElem? (i := 55) rfl) rfl
theorem wg_12 : (Cond.initialized (clC 10)) ∈ W0 := wt1 _ (List.mem_of_getElem? (i := 11) rfl) rfl
theorem wg_13 : (Cond.instanceMethod yX10_init) ∈ W0 := wt6 _ (List.mem_of_getElem? (i := 57) rfl) rfl
theorem wg_14 : (Cond.arrayClass .long) ∈ W0 := wt1 _ (List.mem_of_getElem? (i := 230) rfl) rfl
theorem b_X10_init_240 {h : AH} {a : Nat} (ha : 277 ≤ a) (h0 : Blank h a) : Blank (c_X10_init_240 h) a := (bk_I (by omega) (bk_I (by omega) (bk_I (by omega) (bk_I (by omega) (bk_I (by omega) (bk_R (by omega) (bk_R (by omega) (bk_R (by omega) (bk_R (by omega) (bk_R (by omega) (bk_R (by omega) (bk_R (by omega) (bk_R (by omega) (bk_R (by omega) (bk_R (by omega) (bk_R (by omega) (bk_R (by omega) (bk_I (by omega) (bk_R (by omega) (bk_R (by omega) (bk_R (by omega) (bk_I (by omega) (bk_R (by omega) (bk_R (by omega) (bk_R (by omega) (bk_R (by omega) (bk_R (by omega) (bk_R (by omega) (bk_R (by omega) (bk_R (by omega) (bk_R (by omega) (bk_R (by omega) (bk_R (by omega) (bk_R (by omega) (bk_R (by omega) (bk_R (by omega) (bk_R (by omega) (bk_R (by omega) (bk_I (by omega) (bk_R (by omega) (bk_R (by omega) (bk_R (by omega) (bk_R (by omega) (bk_R (by omega) (bk_I (by omega) h0)))))))))))))))))))))))))))))))))))))))))))))
def hZ : AH := (fun _ _ => 0, fun _ _ => 0, fun _ _ => none)
def hS0 : AH := c_X10_init_240 (c_X9_init_0 hZ)
theorem law_begin {g : GP} (hg : g.1.stackTraces = false) (hF : gF g = false) {X : MX} {Q : State → Prop} (hX : Cx g RL cL_law 12 601024 7293034 (some .boolean) [] X) (kk : AW g X 278 true 278 32419 Q hS0 20 [.ref 100099, .ref 0, .ref 240, .ref 277, jk, jk, jk, jk] []) : AW g X 0 true 0 0 Q hZ 0 [.ref 100099, jk, jk, jk, jk, jk, jk, jk] [] := by
  have hB : ∀ a, Blank hZ a := fun a => ⟨fun _ => rfl, fun _ => rfl, fun _ => rfl⟩
  refine aw_new hX hF (ci := 9) rfl (by decide) rfl (hB 0) wg_4 wg_5 wg_6 (by decide) (by decide) d_L_law_0 ?_
  refine aw_dup hX rfl d_L_law_3 ?_
  refine aw_callI (b := 0) (av := []) (avr := []) (st := [.ref 0]) hX (k_X9_init_0 hg hF (fun a ha => hB a)) mi_X9_init rfl rfl wg_7 wg_9 rfl (by decide) (by decide) (by decide) (by decide) d_L_law_4 ?_
  refine aw_astore_n (i := 1) (lv2 := [.ref 100099, .ref 0, jk, jk, jk, jk, jk, jk]) hX rfl rfl rfl d_L_law_7 ?_
  refine aw_new hX hF (ci := 10) rfl (by decide) rfl (b_X9_init_0 (by decide) (hB 240)) wg_10 wg_11 wg_12 (by decide) (by decide) d_L_law_8 ?_
  refine aw_dup hX rfl d_L_law_11 ?_
  refine aw_callI (b := 240) (av := []) (avr := []) (st := [.ref 240]) hX (k_X10_init_240 hg hF (fun a ha => b_X9_init_0 (by omega) (hB a))) mi_X10_init rfl rfl wg_8 wg_13 rfl (by decide) (by decide) (by decide) (by decide) d_L_law_12 ?_
  refine aw_astore_n (i := 2) (lv2 := [.ref 100099, .ref 0, .ref 240, jk, jk, jk, jk, jk]) hX rfl rfl rfl d_L_law_15 ?_
  refine aw_iconst (v := 1) hX (by decide) d_L_law_16 ?_
  refine aw_newL hX (N := 1) rfl (b_X10_init_240 (by decide) (b_X9_init_0 (by decide) (hB 277))) (by decide) (by decide) (by decide) (by decide) wg_14 (by decide) (by decide) d_L_law_17 ?_
  refine aw_astore_n (i := 3) (lv2 := [.ref 100099, .ref 0, .ref 240, .ref 277, jk, jk, jk, jk]) hX rfl rfl rfl d_L_law_19 ?_
  exact kk
