/-! 99r.law: the surroundings at the law's entry -/
/-! THE CLAIM OUT OF ONE WALK OF THE LAW'S BODY. Your part is whole_start (and what it stands on); all else here is the same for every law, but numbers. -/
def R_law : String := "SeatHallLaw"
def lw_P (b : Addr) (xs : List Int32) (args : Array Value) (s : State) : Prop := args = #[.ref b] ∧ s.IntsAt b xs ∧ xs.length ≤ 3072 ∧ (Jvm.Cond.and given_1 narrow_1).before args s = true
def lw_Q (_ : Array Value) (s : State) (o : Outcome) (t : State) : Prop := o = .returned (some (.int 1)) ∧ Framed s o t [] 601024 7293034
def lw_Z (below : List Frame) (a : Array Value) (s : State) : State → Prop := fun t => ∃ o, t.status = .running ∧ Ended t below o ∧ lw_Q a s o t
/-- the law's own end, with 1 on the stack, nothing written that was there before, its room as the claim has it -/
theorem lw_ret {p : Program} {l : Launch} {e : Env} {s : State} {m : MethodId} {below : List Frame} {meth : Method} {c : Code} {b : Nat} (hx : p.tables.exec = Jvm.exec) (hb : c.code = code) (hr : meth.sig.returnType = ret) (hlocks : meth.locks = false) {pc : Nat} {H : Heap} {ls : Array Slot} (hdg : decode code pc = .ok (.ireturn, 1)) : W p l e room_1 s m #[Value.ref b] below meth c H [] 601024 7293034 (lw_Z below #[Value.ref b] s) (F0 m pc ls [.int 1]) := by
  intro T hT X
  obtain ⟨fs, hret, hrun, hended, hW, hframe⟩ := X.leave (v := some (.int 1)) (hlocks := hlocks) (fun h => by rw [hr] at h; cases h)
  have hmeth' : T.vm.method? m = some meth := X.method'
  refine ⟨T.setFrames fs, ?_, .returned (some (.int 1)), hrun, hended, rfl, ⟨_, rfl⟩, hW, hframe⟩
  jvm_step X.here [X.here.top, hx, hb, hdg, hmeth', hr, ret, narrow_b1]
  (try refine ⟨rfl, ?_⟩); (try refine ⟨rfl, ?_⟩)
  first | (intro acts; rw [hret _ acts rfl rfl rfl]) | rw [hret _ _ rfl rfl rfl]
  exact Steps.refl _
/-- what holds at the law's entry: the machine, the code, the tables' words (any of lw_tbl by 'hts w (by decide +kernel)'), the script of L ints xs at the cell b, what the Statement gives of the start (any of its parts by flat_of_before) -/
def lw_At (p : Program) (s : State) (m : MethodId) (meth : Method) (c : Code) (b L : Nat) (xs : Nat → Int32) : Prop :=
  p.tables.exec = Jvm.exec ∧ c.code = code ∧ meth.sig.returnType = ret ∧ c.maxLocals = 8 ∧ s.vm.findClass R_law = some m.cls ∧ (∀ w ∈ lw_tbl, w.before #[Value.ref b] s = true) ∧ va_X b L xs s s.heap ∧ b < s.heap.size ∧ meth.locks = false ∧ (Jvm.Cond.and given_1 narrow_1).before #[Value.ref b] s = true
theorem cx_start {p : Program} {e : Env} {s : State} {m : MethodId} {below : List Frame} {meth : Method} {c : Code} (l : Launch) (hflags : l.flags = flags0) {b L : Nat} {xs : Nat → Int32} (C0 : lw_At p s m meth c b L xs) (hT : c.exceptionTable.toList = []) : ∃ g : GP, g.1 = l ∧ gF g = false ∧ gB g = s.heap.size ∧ g.2.2.2.2.1 99 = b ∧ Cx g RL cL_law 12 601024 7293034 (some .boolean) [] (p, e, room_1, s, m, #[Value.ref b], below, meth, c) := by
  obtain ⟨hx, hb, hr, hml, hown, hts, hX, hbl, hlocks, hgv⟩ := C0
  have hf := flat_of_before _ hgv
  have hA : ∀ a : Nat, a < s.heap.size → ¬ (fun q : Nat => s.heap.size ≤ q) a := fun a h => Nat.not_le.mpr h
  have hk : ∀ ci : Nat, ∃ q : ClassId × (Nat → Nat), ci < 11 → u_Kn s (clC ci) (clT ci) (clN ci) q.1 q.2 := by
    intro ci
    by_cases h : ci < 11
    · obtain ⟨a, i, k⟩ := u_known hts (q_kw ci h) (hts _ (q_ki ci h))
      exact ⟨(a, i), fun _ => k⟩
    · exact ⟨(m.cls, fun _ => 0), fun h' => absurd h' h⟩
  obtain ⟨D, hD⟩ := Classical.axiomOfChoice hk
  obtain ⟨c0, k0, m0, a1, a2, a3⟩ := Cond.arrayClass_spec (hts _ q_ai)
  obtain ⟨c1, k1, m1, b1, b2, b3⟩ := Cond.arrayClass_spec (hts _ q_al)
  obtain ⟨c2, k2, m2, z1, z2, z3⟩ := Cond.arrayClass_spec (hts _ q_az)
  obtain ⟨comp, c3, k3, d1, d2, d3, d4, d5⟩ := Cond.arrayOver_spec (hts _ q_ao)
  obtain ⟨adK0, adV0, hS, hE⟩ := vk_Sof (args := #[Value.ref b]) (s := s) (N := nJ) (tm := tmS) (len := strL) (byt := strB) (A := fun q : Nat => s.heap.size ≤ q) q_len (fun i hi => hf _ (q_ex i hi)) (fun i hi => hf _ (q_co i hi)) (fun i hi => hf _ (q_ar i hi)) (fun i hi => hf _ (q_le i hi)) (fun i hi j hj => hf _ (q_el i hi j hj)) (fun i j hi hj h => (q_ne i j hi hj h).imp (hf _) (hf _)) hA
  obtain ⟨f0, f1, hfm⟩ : ∃ f0 f1 : Nat, va_Z "jdk/internal/util/Preconditions" "SIOOBE_FORMATTER" "Ljava/util/function/BiFunction;" (if f1 = 0 then .null else .ref f0) (fun q : Nat => s.heap.size ≤ q) s s.heap := by
    rcases va_Zqof (A := fun q : Nat => s.heap.size ≤ q) (hts _ q_l4) (hts _ q_i4) (hf _ q_fo) hA with h | ⟨t, h⟩
    · exact ⟨0, 0, by rw [if_pos rfl]; exact h⟩
    · exact ⟨t, 1, by rw [if_neg (by decide)]; exact h⟩
  have eK : ∀ i : Nat, i < nJ → (if i = 99 then b else adK0 i) = adK0 i := fun i hi => if_neg (by unfold nJ at hi; omega)
  have eV : ∀ i : Nat, i < nJ → (if i = 500 then f0 else if i = 501 then f1 else adV0 i) = adV0 i := fun i hi => by rw [if_neg (by unfold nJ at hi; omega), if_neg (by unfold nJ at hi; omega)]
  refine ⟨(l, (fun ci => (D ci).1, fun ci => (D ci).2), (fun k => if k = 0 then c0 else if k = 1 then c1 else if k = 2 then c2 else c3), (s.heap.size, false), (fun i => if i = 99 then b else adK0 i), (fun i => if i = 500 then f0 else if i = 501 then f1 else adV0 i)), rfl, rfl, rfl, rfl, hx, hb, hown, fun w hw => hts w (w0_in w hw), ⟨?_, ?_⟩, ⟨fun w hw => va_Nw.of (q_fx w hw) (hts w (fx_tbl w hw)), ⟨?_, ?_⟩, vx_Zqof (hts _ q_l1) (hts _ q_i1) (hf _ q_us) hA, vx_Zqof (hts _ q_l2) (hts _ q_i1) (hf _ q_ss) hA, va_Zof (hts _ q_l3) (hts _ q_i3) (va_eqt (hf _ q_cs)) hA, va_Nc.of (hf _ q_nc), va_AO.of (hts _ q_ao), hfm⟩, Nat.le_refl _, ⟨show 12 ≤ room_1.frames by decide, show 41 * 12 ≤ room_1.locals by decide, rfl, rfl⟩, hlocks, hr, hT, ?_⟩
  · intro k q hq
    match k, hq with
    | 0, hq => cases hq; exact hD 0 (by decide)
    | 1, hq => cases hq; exact hD 1 (by decide)
    | 2, hq => cases hq; exact hD 2 (by decide)
    | 3, hq => cases hq; exact hD 3 (by decide)
    | 4, hq => cases hq; exact hD 4 (by decide)
    | 5, hq => cases hq; exact hD 5 (by decide)
    | 6, hq => cases hq; exact hD 6 (by decide)
    | 7, hq => cases hq; exact hD 7 (by decide)
    | 8, hq => cases hq; exact hD 8 (by decide)
    | 9, hq => cases hq; exact hD 9 (by decide)
    | 10, hq => cases hq; exact hD 10 (by decide)
    | k + 11, hq => simp [classes] at hq
  · intro k q hq
    match k, hq with
    | 0, hq => cases hq; exact ⟨fun N z => ⟨(fun k h => by cases h), k0, a2, m0, a3⟩, a1⟩
    | 1, hq => cases hq; exact ⟨fun N z => ⟨(fun k h => by cases h), k1, b2, m1, b3⟩, b1⟩
    | 2, hq => cases hq; exact ⟨fun N z => ⟨(fun k h => by cases h), k2, z2, m2, z3⟩, z1⟩
    | 3, hq => cases hq; exact ⟨fun N z => ⟨(fun k h => by cases h), k3, d3, comp, d4⟩, k3, comp, d3, d4, d1, d5⟩
    | k + 4, hq => simp [tysOf] at hq
  · intro i hi
    show vk_R _ _ _ (if i = 99 then b else adK0 i) s
    rw [eK i hi]
    exact vk_R.of (hts _ (q_st i hi)) (hE i hi)
  · refine ⟨fun i hi => ?_, fun i j hi hj h => ?_⟩
    · have h := hS.1 i hi
      dsimp only
      rw [eK i hi, eV i hi]
      exact h
    · dsimp only at h
      rw [eK i hi, eK j hj] at h
      exact hS.2 i j hi hj h
  · show (!l.flags.contains noTraceFlag) = false
    rw [hflags]
    decide +kernel
