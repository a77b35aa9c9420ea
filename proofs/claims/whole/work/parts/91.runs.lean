/-! 91.runs: begin, on, image, restore: alike -/
section
variable {D : HD} {T : Nat} {h hc hr : AH}
/-- what evenings change -/
def gC (a j : Nat) : Prop := (a = 224 ∧ (j = 1 ∨ j = 2)) ∨ a = 225 ∨ a = 226 ∨ a = 227
def gRr (a j : Nat) : Prop := a = 269 ∨ a = 271 ∨ a = 272 ∨ a = 275 ∨ a = 251 ∨ a = 252
theorem x_turn {nx : Nat} (hD : WFD D) (h6 : W60 D) (x : YC D T hc) (y : YR D hr) (he : nx < D.N) (r : RR2 D nx hc hr) : z2 (bd (s_X4_play 224 (some 13) (some T) (gI hc 224 1) hc) fun q1 => some ((), sI q1.2 224 1 ((gI q1.2 224 1) + 1))) (bd (ldI hr 269 0) fun x4 => bd (s_X10_oneEvening x4 hr) fun q5 => bd (ldI q5.2 269 0) fun x6 => bd (stI q5.2 269 0 (x6 + 1)) fun m7 => some ((), m7)) (fun a b => RR2 D (nx + 1) a.2 b.2 ∧ Fr gC hc a.2 ∧ Fr gRr hr b.2) := by
  have hK := hD.K6
  have hN := hD.N16
  obtain ⟨r1, r2, r3, r4, r5, r6⟩ := id r
  rw [r1]
  refine z2_r (ldI_ok 0 (n := 2) rfl rfl (by decide)) ?_
  rw [r2]
  refine z2_bd (x_evening hD h6 x y he r) ?_
  rintro ⟨u1, gc⟩ ⟨u2, gr⟩ ⟨-, s1, p1, e1, f1, q1⟩
  dsimp only at s1 p1 e1 f1 q1 ⊢
  refine z2_r (ldI_ok 0 (n := 2) rfl rfl (by decide)) ?_
  rw [f1.i (by unfold eC; omega), q1.i (by unfold eR; omega), r1, r2, show zi (nx : Int) + 1 = zi ((nx + 1 : Nat) : Int) from (by first | (simp only [zi_lit, zi_neg, zi_add, zi_sub, zi_mul, zl_lit, zl_neg, zl_add, zl_sub, zl_mul, zl_i]; exact congrArg zi (by omega)) | (simp only [zi_lit, zi_neg, zi_add, zi_sub, zi_mul, zl_lit, zl_neg, zl_add, zl_sub, zl_mul, zl_i]; done) | exact congrArg zi (by omega))]
  refine z2_r (stI_ok 0 (n := 2) rfl rfl (by decide)) ?_
  have fc : Fr (fun a j => a = 224 ∧ j = 1) gc (sI gc 224 1 (zi ((nx + 1 : Nat) : Int))) := (Fr.refl _ gc).sI ⟨rfl, rfl⟩
  have fr : Fr (fun a j => a = 269 ∧ j = 0) gr (sI gr 269 0 (zi ((nx + 1 : Nat) : Int))) := (Fr.refl _ gr).sI ⟨rfl, rfl⟩
  refine z2_some ⟨⟨?_, ?_, ?_, ?_, fun e hne => ?_, fun e k he2 hk hk6 => ?_⟩, (f1.mono (by unfold eC gC; omega)).trans (fc.mono (by unfold gC; omega)), (q1.mono (by unfold eR gRr; omega)).trans (fr.mono (by unfold gRr; omega))⟩
  · show gI (sI gc 224 1 _) 224 1 = _
    rw [gI_sI, if_pos ⟨rfl, rfl⟩]
  · show gI (sI gr 269 0 _) 269 0 = _
    rw [gI_sI, if_pos ⟨rfl, rfl⟩]
  · show gI (sI gc 224 1 _) 224 2 = gI (sI gr 269 0 _) 269 1
    rw [fc.i (by omega), fr.i (by omega)]
    exact s1
  · intro k2 j2 hk2 hj2
    obtain ⟨d2, w1, w2, w3, w4, w5⟩ := p1 k2 j2 hk2 hj2
    exact ⟨d2, w1, w2, (fc.i (by omega)).trans w3, (fr.i (by omega)).trans w4, (fr.i (by omega)).trans w5⟩
  · rcases Nat.lt_or_ge e nx with q | q
    · refine ((r5 e q).fr hK f1 q1 (fun k hk => ?_) (by unfold eC; omega) (fun k hk => by unfold eR; omega)).fr hK fc fr (fun k hk => by omega) (by omega) (fun k hk => by omega)
      unfold eC
      omega
    · have : e = nx := by omega
      subst this
      exact e1.fr hK fc fr (fun k hk => by omega) (by omega) (fun k hk => by omega)
  · rw [fc.i (by omega), f1.i (by unfold eC; omega)]
    exact r6 e k he2 hk hk6
theorem x_go {nx n : Nat} (hD : WFD D) (h6 : W60 D) (x : YC D T hc) (y : YR D hr) (he : nx + n ≤ D.N) (r : RR2 D nx hc hr) : z2 (s_X4_goOn 224 (some 13) (some T) (zi n) hc) (lpH (l_X10_on_70 (zi n)) FU 0 hr) (fun a b => RR2 D (nx + n) a.2 b.2 ∧ Fr gC hc a.2 ∧ Fr gRr hr b.2) := by
  have hN := hD.N16
  have key : z2 (lpH (l_X4_goOn_3 224 T (zi n)) FU 0 hc) (lpH (l_X10_on_70 (zi n)) FU 0 hr) (fun a b => RR2 D (nx + n) a.2 b.2 ∧ Fr gC hc a.2 ∧ Fr gRr hr b.2) := by
    refine z2_for n (fun i s h t j => s = zi (i : Int) ∧ t = zi (i : Int) ∧ RR2 D (nx + i) h j ∧ Fr gC hc h ∧ Fr gRr hr j) (by omega) ⟨rfl, rfl, r, Fr.refl _ hc, Fr.refl _ hr⟩ ?_ ?_
    · rintro i s h t j hi ⟨rfl, rfl, ri, fc, fr⟩
      have x' := x.fr hD fc (fun a k => by unfold YCa gC; omega)
      have y' := y.fr fr (fun a k => by unfold YRa gRr; omega)
      obtain ⟨⟨u1, a⟩, ⟨u2, b⟩, e1, e2, q1, q2, q3⟩ := x_turn hD h6 x' y' (nx := nx + i) (by omega) ri
      unfold l_X4_goOn_3 l_X10_on_70
      refine z2_lf (by rw [zi_le (by omega) (by omega) (by omega) (by omega)]; omega) ?_
      refine z2_rf (by rw [zi_le (by omega) (by omega) (by omega) (by omega)]; omega) ?_
      have c1 : (bd (s_X4_play 224 (some 13) (some T) (gI h 224 1) h) fun q1 => some (Sum.inl (zi (i : Int) + 1), sI q1.2 224 1 ((gI q1.2 224 1) + 1))) = (some ((Sum.inl (zi (i : Int) + 1) : Int32 ⊕ Unit), a)) := by
        cases hq : s_X4_play 224 (some 13) (some T) (gI h 224 1) h with
        | none => rw [hq] at e1; exact absurd e1 (by intro z; cases z)
        | some v =>
          rw [hq, bd_v] at e1
          rw [bd_v, (Prod.mk.inj (Option.some.inj e1)).2]
      have c2 : (bd (ldI j 269 0) fun x4 => bd (s_X10_oneEvening x4 j) fun q5 => bd (ldI q5.2 269 0) fun x6 => bd (stI q5.2 269 0 (x6 + 1)) fun m7 => some (Sum.inl (zi (i : Int) + 1), m7)) = (some ((Sum.inl (zi (i : Int) + 1) : Int32 ⊕ Unit), b)) := by
        cases h1 : ldI j 269 0 with
        | none => rw [h1] at e2; exact absurd e2 (by intro z; cases z)
        | some v1 =>
          rw [h1, bd_v] at e2
          rw [bd_v]
          cases h2 : s_X10_oneEvening v1 j with
          | none => rw [h2] at e2; exact absurd e2 (by intro z; cases z)
          | some v2 =>
            rw [h2, bd_v] at e2
            rw [bd_v]
            cases h3 : ldI v2.2 269 0 with
            | none => rw [h3] at e2; exact absurd e2 (by intro z; cases z)
            | some v3 =>
              rw [h3, bd_v] at e2
              rw [bd_v]
              cases h4 : stI v2.2 269 0 (v3 + 1) with
              | none => rw [h4] at e2; exact absurd e2 (by intro z; cases z)
              | some v4 =>
                rw [h4, bd_v] at e2
                rw [bd_v, (Prod.mk.inj (Option.some.inj e2)).2]
      rw [c1, c2]
      have ei : zi (i : Int) + 1 = zi ((i + 1 : Nat) : Int) := (by first | (simp only [zi_lit, zi_neg, zi_add, zi_sub, zi_mul, zl_lit, zl_neg, zl_add, zl_sub, zl_mul, zl_i]; exact congrArg zi (by omega)) | (simp only [zi_lit, zi_neg, zi_add, zi_sub, zi_mul, zl_lit, zl_neg, zl_add, zl_sub, zl_mul, zl_i]; done) | exact congrArg zi (by omega))
      exact z2_some ⟨_, _, rfl, rfl, ei, ei, q1, fc.trans q2, fr.trans q3⟩
    · rintro s h t j ⟨rfl, rfl, ri, fc, fr⟩
      unfold l_X4_goOn_3 l_X10_on_70
      refine z2_lt (by rw [zi_le (by omega) (by omega) (by omega) (by omega)]; omega) ?_
      refine z2_rt (by rw [zi_le (by omega) (by omega) (by omega) (by omega)]; omega) ?_
      exact z2_some ⟨_, _, rfl, rfl, ri, fc, fr⟩
  unfold s_X4_goOn
  rw [if_pos (by decide +kernel : LAY 224 = (0, 4)), if_pos rfl, bd_v, if_pos x.1.1.l0]
  obtain ⟨a, b, e1, e2, e3⟩ := key
  exact ⟨((), a.2), b, by rw [e1, bd_v], e2, e3⟩
/-- a run as the invariant has it -/
theorem RR2.of (x : RRun D 224 269 271 272 275 h) : ∃ nx : Nat, nx ≤ D.N ∧ RR2 D nx h h := by
  obtain ⟨n, h1, h2, h3, h4, h5, h6, h7⟩ := x
  exact ⟨n, h1, h2, h3, h4, fun k i hk hi => h5 k i hk hi, fun e he => h6 e he, h7⟩
theorem RR2.to {nx : Nat} (hD : WFD D) {S : Nat → Nat → Prop} (x : RR2 D nx hc hr) (hn : nx ≤ D.N) (f : Fr S hc hr) (n : ∀ a j, (224 ≤ a ∧ a ≤ 227) → ¬ S a j) : RRun D 224 269 271 272 275 hr := by
  obtain ⟨h2, h3, h4, h5, h6, h7⟩ := x
  refine ⟨nx, hn, (f.i (n _ _ (by omega))).trans h2, h3, (f.i (n _ _ (by omega))).trans h4, fun k i hk hi => ?_, fun e he => ?_, fun e k he hk hk6 => (f.i (n _ _ (by omega))).trans (h7 e k he hk hk6)⟩
  · obtain ⟨d, w1, w2, w3, w4, w5⟩ := h5 k i hk hi
    exact ⟨d, w1, w2, (f.i (n _ _ (by omega))).trans w3, w4, w5⟩
  · obtain ⟨cv, w1, w2, w3, w4, w5, w6⟩ := h6 e he
    exact ⟨cv, fun k hk => ⟨(f.i (n _ _ (by omega))).trans (w1 k hk).1, (w1 k hk).2⟩, w2, w3, w4, w5, w6.trans (f.i (n _ _ (by omega))).symm⟩
/-- cells of runs -/
def rA (a k : Nat) : Prop := SC a k ∨ (224 ≤ a ∧ a ≤ 231) ∨ (a = 240 ∧ (k = 58 ∨ k = 59)) ∨ (269 ≤ a ∧ a ≤ 276)
theorem IVd.frV {h' : AH} (x : IVd D T h) (f : Fr rA h h') (z : IVr D h') : IVd D T h' := by
  obtain ⟨h1, h2, h3, h4, h5, h6, h7, h8, h9, h10, h11, h12, h13⟩ := x
  exact ⟨h1, h2, (f.r (by unfold rA SC; omega)).trans h3, h4.fr h1 f (by intro a k; unfold YCa rA SC; omega), h5.fr f (by intro a k; unfold YRa rA SC; omega), h6.fr f (by intro a k; unfold rA SC; omega), h7.fr f (by intro a k; unfold rA SC; omega), h8.fr f (by intro a k; unfold rA SC; omega), h9.fr f (by intro a k; unfold rA SC; omega), h10.fr f (by intro a k; unfold rA SC; omega), h11.fr f (by intro a k; unfold rA SC; omega), z⟩
theorem IVd.frS {h' : AH} (x : IVd D T h) (f : Fr (fun a k => SC a k ∨ (a = 0 ∧ k = 12) ∨ (a = 246 ∧ k = 1)) h h') (z : IVs h') : IVd D T h' := by
  obtain ⟨h1, h2, h3, h4, h5, h6, h7, h8, h9, h10, h11, h12, h13⟩ := x
  exact ⟨h1, h2, (f.r (by unfold SC; omega)).trans h3, h4.fr h1 f (by intro a k; unfold YCa SC; omega), h5.fr f (by intro a k; unfold YRa SC; omega), h6.fr f (by intro a k; unfold SC; omega), z, h8.fr f (by intro a k; unfold SC; omega), h9.fr f (by intro a k; unfold SC; omega), h10.fr f (by intro a k; unfold SC; omega), h11.fr f (by intro a k; unfold SC; omega), h12.fr f h1.K6 (by intro a k; unfold SC; omega), h13.fr f h1.K6 (by intro a k; unfold SC; omega)⟩
theorem IVd.run (x : IVd D T h) : IVr D h := x.2.2.2.2.2.2.2.2.2.2.2
theorem IVd.stat (x : IVd D T h) : IVs h := x.2.2.2.2.2.2.1
theorem IVd.w6 (x : IVd D T h) : W60 D := x.2.1
theorem g_on (x : IVd D T h) (a0 : Int32) : ag Int32.toInt64 (s_L_on (some 0) a0 (some 277) h) (s_X10_on a0) := by
  obtain ⟨a, rfl, ha1, ha2⟩ := zi_of a0
  have hD := x.wf
  have hN := hD.N16
  have st := x.stat
  by_cases q1 : 0 ≤ a ∧ a ≤ 16
  · have ea : zi a = zi (a.toNat : Nat) := congrArg zi (by omega)
    have head : ∀ H : AH, ∀ Q : Int32 × AH → Prop, zw (if (gI (sI H 240 0 0) 240 58) = 0 then bd (ldI (sI H 240 0 0) 246 1) fun x13 => bd (stI (sI H 240 0 0) 246 1 (x13 + 1)) fun m14 => some ((-1), m14) else bd (ldI (sI H 240 0 0) 269 0) fun x3 => if (x3 + zi a) ≤ (gI (sI H 240 0 0) 240 3) then bd (lpH (l_X10_on_70 (zi a)) FU 0 (sI H 240 0 0)) fun y8 => bd (ldI y8.2 269 0) fun x10 => some (x10, y8.2) else bd (ldI (sI H 240 0 0) 246 1) fun x11 => bd (stI (sI H 240 0 0) 246 1 (x11 + 1)) fun m12 => some ((-1), m12)) Q → zw (s_X10_on (zi a) H) Q := by
      intro H Q hh
      unfold s_X10_on
      refine zw_bd1 (r_within rfl ((show (0 : Int32) = zi 0 from zi_lit 0)) ((show (16 : Int32) = zi 16 from zi_lit 16)) ha1 ha2 (by decide) (by decide) (by decide) (by decide)) ?_
      refine zw_bd1 (r_right rfl g0_z (by decide)) ?_
      rw [if_pos (decide_eq_true q1)]
      exact zw_f one_ne hh
    -- refused
    have ref : (s_X9_on (zi a) h = j_X9_on_47 h) → (∀ H, gI H 240 58 = gI h 240 58 → gI H 269 0 = gI h 269 0 → gI H 240 3 = gI h 240 3 → ∀ Q : Int32 × AH → Prop, zw (bd (ldI (sI H 240 0 0) 246 1) fun x13 => bd (stI (sI H 240 0 0) 246 1 (x13 + 1)) fun m14 => some ((-1), m14)) Q → zw (s_X10_on (zi a) H) Q) → ag Int32.toInt64 (s_L_on (some 0) (zi a) (some 277) h) (s_X10_on (zi a)) := by
      intro c1 c2
      have f1 : Fr (fun a k => SC a k ∨ (a = 0 ∧ k = 12) ∨ (a = 246 ∧ k = 1)) h (sL (sI h 0 12 (gI h 0 12 + 1)) 277 0 (-1)) := ((Fr.refl _ h).sI (Or.inr (Or.inl ⟨rfl, rfl⟩))).sL (Or.inl (by unfold SC; omega))
      have e58 : ∀ a k, a ≠ 0 → gI (sL (sI h 0 12 (gI h 0 12 + 1)) 277 0 (-1)) a k = gI h a k := fun a k ha => by rw [gI_sL, gI_sI, if_neg (fun z => ha z.1)]
      have e12 : gI (sL (sI h 0 12 (gI h 0 12 + 1)) 277 0 (-1)) 0 12 = gI h 0 12 + 1 := by rw [gI_sL, gI_sI, if_pos ⟨rfl, rfl⟩]
      have e00 : ∀ k, k ≠ 12 → gI (sL (sI h 0 12 (gI h 0 12 + 1)) 277 0 (-1)) 0 k = gI h 0 k := fun k hk => by rw [gI_sL, gI_sI, if_neg (fun z => hk z.2)]
      have e77 : gL (sL (sI h 0 12 (gI h 0 12 + 1)) 277 0 (-1)) 277 0 = -1 := by rw [gL_sL, if_pos ⟨rfl, rfl⟩]
      have cl : s_L_on (some 0) (zi a) (some 277) h = some (0, sL (sI h 0 12 (gI h 0 12 + 1)) 277 0 (-1)) := by
        unfold s_L_on
        rw [if_pos rfl, c1]
        unfold j_X9_on_47
        rw [bd_v, sm_l]
        exact hl_v rfl
      generalize sL (sI h 0 12 (gI h 0 12 + 1)) 277 0 (-1) = H at f1 e58 e12 e00 e77 cl
      have r := c2 H (e58 _ _ (by decide)) (e58 _ _ (by decide)) (e58 _ _ (by decide)) (fun r => r = (-1, sI (sI H 240 0 0) 246 1 (gI h 246 1 + 1))) (by
        refine zw_bd1 (ldI_ok 1 (n := 2) rfl ((show (1 : Int32) = zi 1 from zi_lit 1)) (by decide)) ?_
        rw [gI_sI, if_neg (by omega), e58 _ _ (by decide)]
        exact zw_bd1 (stI_ok 1 (n := 2) rfl ((show (1 : Int32) = zi 1 from zi_lit 1)) (by decide)) (zw_some rfl))
      have f2 : Fr (fun a k => SC a k ∨ (a = 0 ∧ k = 12) ∨ (a = 246 ∧ k = 1)) h (sI (sI H 240 0 0) 246 1 (gI h 246 1 + 1)) := (f1.sI (Or.inl (by unfold SC; omega))).sI (Or.inr (Or.inr ⟨rfl, rfl⟩))
      have o2 : ∀ a k, ¬ (a = 240 ∧ k = 0) → ¬ (a = 246 ∧ k = 1) → gI (sI (sI H 240 0 0) 246 1 (gI h 246 1 + 1)) a k = gI H a k := fun a k h1 h2 => by rw [gI_sI, if_neg h2, gI_sI, if_neg h1]
      have z2' : gI (sI (sI H 240 0 0) 246 1 (gI h 246 1 + 1)) 246 1 = gI h 246 1 + 1 := by rw [gI_sI, if_pos ⟨rfl, rfl⟩]
      have z3 : gI (sI (sI H 240 0 0) 246 1 (gI h 246 1 + 1)) 240 0 = 0 := by rw [gI_sI, if_neg (by omega), gI_sI, if_pos ⟨rfl, rfl⟩]
      have z4 : gL (sI (sI H 240 0 0) 246 1 (gI h 246 1 + 1)) 277 0 = -1 := by rw [gL_sI, gL_sI]; exact e77
      refine ⟨0, H, -1, _, cl, zw_o r, z3, fun _ => z4, D, T, x.frS f2 ⟨?_, ?_, ?_⟩⟩
      · rw [o2 _ _ (by omega) (by omega), o2 _ _ (by omega) (by omega), e00 _ (by decide), e58 _ _ (by decide)]; exact st.1
      · rw [o2 _ _ (by omega) (by omega), o2 _ _ (by omega) (by omega), e00 _ (by decide), e58 _ _ (by decide)]; exact st.2.1
      · rw [o2 _ _ (by omega) (by omega), z2', e12, st.2.2]
    have cls : ∀ {α : Type} (F : (Int32 ⊕ Nat) × AH → α), (s_X9_on (zi a) h) = if gI h 224 0 = 0 then j_X9_on_47 h else if gI h 224 1 + zi a ≤ zi D.N then bd (s_X4_goOn 224 (some 13) (some T) (zi a) h) fun q3 => some (.inl (gI q3.2 224 1), q3.2) else j_X9_on_47 h := by
      intro α F
      unfold s_X9_on
      rw [if_neg (by rw [(show (0 : Int32) = zi 0 from zi_lit 0), zi_lt (by omega) (by omega) (by omega) (by omega)]; omega), if_pos (by rw [(show (16 : Int32) = zi 16 from zi_lit 16), zi_le (by omega) (by omega) (by omega) (by omega)]; exact q1.2), x.t8, bd_v, if_pos x.tl.l0, bd_v, if_pos x.tl.l0, x.ch.1.2.2.1]
    have cls' := cls (fun _ => ())
    rcases x.run.1 with ⟨f1, f2⟩ | ⟨f1, f2, rr⟩
    · refine ref (by rw [cls', if_pos f1]) (fun H h1 h2 h3 Q hq => head H Q (zw_t ?_ hq))
      rw [gI_sI, if_neg (by omega), h1]
      exact f2
    · obtain ⟨nx, hn, r2⟩ := RR2.of rr
      have g1 := r2.1
      have g2 := r2.2.1
      by_cases q2 : nx + a.toNat ≤ D.N
      · -- it goes on
        have run := fun (g : AH) (y : YR D g) (r : RR2 D nx h g) => x_go (n := a.toNat) hD x.w6 x.c y q2 r
        obtain ⟨⟨u1, hc1⟩, b1, e1, -, rr1, fc1, -⟩ := run h x.r r2
        dsimp only at rr1 fc1
        have n1 := rr1.1
        have fh : Fr (fun a k => gC a k ∨ SC a k) h (sI (sL hc1 277 0 (gI hc1 224 1).toInt64) 240 0 0) := ((fc1.mono (fun a k q => Or.inl q) : Fr (fun a k => gC a k ∨ SC a k) h hc1).sL (Or.inr (by unfold SC; omega))).sI (Or.inr (by unfold SC; omega))
        have og : ∀ a j, 269 ≤ a → a ≤ 276 → gI (sI (sL hc1 277 0 (gI hc1 224 1).toInt64) 240 0 0) a j = gI h a j := fun a j h1 h2 => by rw [gI_sI, if_neg (by omega), gI_sL, fc1.i (by unfold gC; omega)]
        have o240 : ∀ j, j ≠ 0 → gI (sI (sL hc1 277 0 (gI hc1 224 1).toInt64) 240 0 0) 240 j = gI h 240 j := fun j hj => by rw [gI_sI, if_neg (by omega), gI_sL, fc1.i (by unfold gC; omega)]
        have yr := x.r.fr fh (by intro a k; unfold YRa gC SC; omega)
        have r3 : RR2 D nx h (sI (sL hc1 277 0 (gI hc1 224 1).toInt64) 240 0 0) := by
          obtain ⟨w1, w2, w3, w4, w5, w6⟩ := r2
          refine ⟨w1, (og _ _ (by decide) (by decide)).trans w2, w3.trans (og _ _ (by decide) (by decide)).symm, fun k i hk hi => ?_, fun e he => ?_, w6⟩
          · obtain ⟨d, p1, p2, p3, p4, p5⟩ := w4 k i hk hi
            exact ⟨d, p1, p2, p3, (og _ _ (by decide) (by decide)).trans p4, (og _ _ (by decide) (by decide)).trans p5⟩
          · obtain ⟨cv, p1, p2, p3, p4, p5, p6⟩ := w5 e he
            exact ⟨cv, p1, fun k hk => (og _ _ (by decide) (by decide)).trans (p2 k hk), (og _ _ (by decide) (by decide)).trans p3, (og _ _ (by decide) (by decide)).trans p4, (og _ _ (by decide) (by decide)).trans p5, (og _ _ (by decide) (by decide)).trans p6⟩
        obtain ⟨⟨u2, hc2⟩, ⟨u3, hr2⟩, e2, e3, rr2, fc2, fr2⟩ := run _ yr r3
        dsimp only at rr2 fc2 fr2
        have same : hc2 = hc1 := by
          rw [e1] at e2
          exact (Prod.mk.inj (Option.some.inj e2)).2.symm
        subst same
        have o77 : gL (sI (sL hc2 277 0 (gI hc2 224 1).toInt64) 240 0 0) 277 0 = (gI hc2 224 1).toInt64 := by rw [gL_sI, gL_sL, if_pos ⟨rfl, rfl⟩]
        have fcr : Fr (fun a k => gRr a k ∨ a = 277 ∨ (a = 240 ∧ k = 0)) hc2 hr2 := ((((Fr.refl _ hc2).sL (Or.inr (Or.inl rfl))).sI (Or.inr (Or.inr ⟨rfl, rfl⟩)) : Fr (fun a k => gRr a k ∨ a = 277 ∨ (a = 240 ∧ k = 0)) hc2 (sI (sL hc2 277 0 (gI hc2 224 1).toInt64) 240 0 0))).trans (fr2.mono (fun a k q => Or.inl q))
        have run2 := rr2.to hD q2 fcr (by unfold gRr; omega)
        have ft : Fr rA h hr2 := (fh.mono (by unfold gC rA SC; intro a k; omega)).trans (fr2.mono (by unfold gRr rA SC; omega))
        have s0 : gI hr2 240 0 = 0 := by rw [fr2.i (by unfold gRr; omega)]; exact g0_z
        have s58 : gI hr2 240 58 = 1 := by rw [fr2.i (by unfold gRr; omega), o240 _ (by decide)]; exact f2
        have s224 : gI hr2 224 0 = 1 := by rw [fcr.i (by unfold gRr; omega), fc2.i (by unfold gC; omega)]; exact f1
        have fin : IVr D hr2 := by
          refine ⟨Or.inr ⟨s224, s58, run2⟩, x.run.2.fr (S := fun a k => gRr a k ∨ gC a k ∨ a = 277 ∨ (a = 240 ∧ k = 0)) ?_ hD.K6 ?_⟩
          · exact (fc2.mono (fun a k q => Or.inr (Or.inl q))).trans (fcr.mono (fun a k q => by rcases q with q | q; exact Or.inl q; exact Or.inr (Or.inr q)))
          · intro b k
            unfold gRr gC
            omega
        refine ⟨0, sL hc2 277 0 (gI hc2 224 1).toInt64, gI hc2 224 1, hr2, ?_, zw_o (head _ _ ?_), s0, fun _ => ?_, D, T, x.frV ft fin⟩
        · unfold s_L_on
          rw [if_pos rfl, cls', if_neg (by rw [f1]; decide), if_pos (by rw [g1, ea, zi_add, zi_le (by omega) (by omega) (by omega) (by omega)]; omega), ea, e1, bd_v, bd_v, sm_l]
          exact hl_v rfl
        · refine zw_f (by rw [o240 _ (by decide), f2]; decide) ?_
          refine zw_bd1 (ldI_ok 0 (n := 2) rfl rfl (by decide)) ?_
          rw [r3.2.1, o240 _ (by decide), show gI h 240 3 = zi D.N from x.rh.1.2.2.1]
          refine zw_t (by rw [ea, zi_add, zi_le (by omega) (by omega) (by omega) (by omega)]; omega) ?_
          rw [ea]
          refine zw_bd1 e3 ?_
          refine zw_bd1 (ldI_ok 0 (n := 2) rfl rfl (by decide)) ?_
          dsimp only
          rw [rr2.2.1, rr2.1]
          exact zw_some rfl
        · show gL hr2 277 0 = _
          rw [fr2.l (by unfold gRr; omega)]
          exact o77
      · refine ref (by rw [cls', if_neg (by rw [f1]; decide), if_neg (by rw [g1, ea, zi_add, zi_le (by omega) (by omega) (by omega) (by omega)]; omega)]) (fun H h1 h2 h3 Q hq => head H Q (zw_f ?_ (zw_bd1 (ldI_ok 0 (n := 2) rfl rfl (by decide)) (zw_f ?_ hq))))
        · rw [gI_sI, if_neg (by omega), h1, f2]; decide
        · rw [gI_sI, if_neg (by omega), h2, g2, gI_sI, if_neg (by omega), h3, show gI h 240 3 = zi D.N from x.rh.1.2.2.1, ea, zi_add, zi_le (by omega) (by omega) (by omega) (by omega)]
          omega
  · refine ag_t (k := 1) (b := 0) x ?_ (by decide) (zw_o ?_)
    · unfold s_L_on s_X9_on j_X9_on_10
      by_cases c1 : a < 0
      · rw [if_pos rfl, if_pos (by rw [(show (0 : Int32) = zi 0 from zi_lit 0), zi_lt (by omega) (by omega) (by omega) (by omega)]; exact c1)]
        rfl
      · rw [if_pos rfl, if_neg (by rw [(show (0 : Int32) = zi 0 from zi_lit 0), zi_lt (by omega) (by omega) (by omega) (by omega)]; exact c1), if_neg (by rw [(show (16 : Int32) = zi 16 from zi_lit 16), zi_le (by omega) (by omega) (by omega) (by omega)]; omega)]
        rfl
    · unfold s_X10_on
      refine zw_bd1 (r_within rfl ((show (0 : Int32) = zi 0 from zi_lit 0)) ((show (16 : Int32) = zi 16 from zi_lit 16)) ha1 ha2 (by decide) (by decide) (by decide) (by decide)) ?_
      refine zw_bd1 (r_right rfl g0_z (by decide)) ?_
      rw [if_neg (fun z => q1 (of_decide_eq_true z))]
      exact zw_t rfl (zw_some rfl)
/-- rows alike -/
theorem RRun.cp {a ra rl rh rs b rb rm ri rt : Nat} {g : AH} (hD : WFD D) (h6 : W60 D) (x : RRun D a ra rl rh rs h) (c0 : gI g b 1 = gI h a 1) (c2 : gI g b 2 = gI h a 2) (k1 : ∀ i, i < 360 → gI g (b + 1) i = gI h (a + 1) i) (k2 : ∀ i, i < 96 → gI g (b + 2) i = gI h (a + 2) i) (k3 : ∀ i, i < 16 → gI g (b + 3) i = gI h (a + 3) i) (k4 : ∀ i, i < 2 → gI g rb i = gI h ra i) (k5 : ∀ i, i < 360 → gI g rm i = gI h rl i) (k6 : ∀ i, i < 360 → gI g ri i = gI h rh i) (k7 : ∀ i, i < 160 → gI g rt i = gI h rs i) : RRun D b rb rm ri rt g := by
  have hN := hD.N16
  have hK := hD.K6
  obtain ⟨nx, h1, h2, h3, h4, h5, h6', h7⟩ := x
  refine ⟨nx, h1, c0.trans h2, (k4 0 (by decide)).trans h3, ?_, fun k i hk hi => ?_, fun e he => ?_, fun e k he hk hk6 => (k2 _ (by omega)).trans (h7 e k he hk hk6)⟩
  · rw [c2, k4 1 (by decide)]; exact h4
  · obtain ⟨d, w1, w2, w3, w4, w5⟩ := h5 k i hk hi
    have l := dOff_360 hD h6 hk hi
    exact ⟨d, w1, w2, (k1 _ l).trans w3, (k6 _ l).trans w4, (k5 _ l).trans w5⟩
  · obtain ⟨cv, w1, w2, w3, w4, w5, w6⟩ := h6' e he
    refine ⟨cv, fun k hk => ⟨(k2 _ (by omega)).trans (w1 k hk).1, (w1 k hk).2⟩, fun k hk => (k7 _ (by omega)).trans (w2 k hk), (k7 _ (by omega)).trans w3, (k7 _ (by omega)).trans w4, (k7 _ (by omega)).trans w5, ?_⟩
    rw [k7 _ (by omega), k3 _ (by omega)]
    exact w6
theorem lay_run : LAY 224 = (0, 4) ∧ LAY 225 = (1, 360) ∧ LAY 226 = (1, 96) ∧ LAY 227 = (1, 16) ∧ LAY 228 = (0, 4) ∧ LAY 229 = (1, 360) ∧ LAY 230 = (1, 96) ∧ LAY 231 = (1, 16) := by decide +kernel
/-- Run.copy -/
theorem c_copy {th oa : Nat} (hab : (th = 224 ∧ oa = 228) ∨ (th = 228 ∧ oa = 224)) (h0 : gI h oa 0 = 0 ∨ gI h oa 0 = 1) : zw (s_X4_copy th (some oa) h) (fun r => Fr (fun a _ => th ≤ a ∧ a ≤ th + 3) h r.2 ∧ gI r.2 th 0 = gI h oa 0 ∧ gI r.2 th 1 = gI h oa 1 ∧ gI r.2 th 2 = gI h oa 2 ∧ (∀ i, i < 360 → gI r.2 (th + 1) i = gI h (oa + 1) i) ∧ (∀ i, i < 96 → gI r.2 (th + 2) i = gI h (oa + 2) i) ∧ (∀ i, i < 16 → gI r.2 (th + 3) i = gI h (oa + 3) i)) := by
  obtain ⟨l0, l1, l2, l3, l4, l5, l6, l7⟩ := lay_run
  have lt : LAY th = (0, 4) ∧ LAY (th + 1) = (1, 360) ∧ LAY (th + 2) = (1, 96) ∧ LAY (th + 3) = (1, 16) ∧ LAY oa = (0, 4) ∧ LAY (oa + 1) = (1, 360) ∧ LAY (oa + 2) = (1, 96) ∧ LAY (oa + 3) = (1, 16) := by
    rcases hab with ⟨rfl, rfl⟩ | ⟨rfl, rfl⟩
    · exact ⟨l0, l1, l2, l3, l4, l5, l6, l7⟩
    · exact ⟨l4, l5, l6, l7, l0, l1, l2, l3⟩
  obtain ⟨m0, m1, m2, m3, n0, n1, n2, n3⟩ := lt
  unfold s_X4_copy
  rw [if_pos m0, bd_v, if_pos n0, if_pos h0]
  have e1 : gI (sI h th 0 (gI h oa 0)) oa 1 = gI h oa 1 := by rw [gI_sI, if_neg (by omega)]
  rw [e1]
  have e2 : gI (sI (sI h th 0 (gI h oa 0)) th 1 (gI h oa 1)) oa 2 = gI h oa 2 := by rw [gI_sI, if_neg (by omega), gI_sI, if_neg (by omega)]
  rw [e2]
  have f1 : Fr (fun a k => a = th ∧ k ≤ 2) h (sI (sI (sI h th 0 (gI h oa 0)) th 1 (gI h oa 1)) th 2 (gI h oa 2)) := (((Fr.refl (fun a k => a = th ∧ k ≤ 2) h).sI (by omega)).sI (by omega)).sI (by omega)
  have v0 : gI (sI (sI (sI h th 0 (gI h oa 0)) th 1 (gI h oa 1)) th 2 (gI h oa 2)) th 0 = gI h oa 0 := by rw [gI_sI, if_neg (by omega), gI_sI, if_neg (by omega), gI_sI, if_pos ⟨rfl, rfl⟩]
  have v1 : gI (sI (sI (sI h th 0 (gI h oa 0)) th 1 (gI h oa 1)) th 2 (gI h oa 2)) th 1 = gI h oa 1 := by rw [gI_sI, if_neg (by omega), gI_sI, if_pos ⟨rfl, rfl⟩]
  have v2 : gI (sI (sI (sI h th 0 (gI h oa 0)) th 1 (gI h oa 1)) th 2 (gI h oa 2)) th 2 = gI h oa 2 := by rw [gI_sI, if_pos ⟨rfl, rfl⟩]
  generalize sI (sI (sI h th 0 (gI h oa 0)) th 1 (gI h oa 1)) th 2 (gI h oa 2) = G at f1 v0 v1 v2 ⊢
  refine zw_bd (copy_ok (n := 360) (by omega) n1 m1) ?_
  rintro ⟨u1, g1⟩ ⟨f2, c2⟩
  dsimp only at f2 c2 ⊢
  refine zw_bd (copy_ok (n := 96) (by omega) n2 m2) ?_
  rintro ⟨u2, g2⟩ ⟨f3, c3⟩
  dsimp only at f3 c3 ⊢
  refine zw_bd (copy_ok (n := 16) (by omega) n3 m3) ?_
  rintro ⟨u3, g3⟩ ⟨f4, c4⟩
  dsimp only at f4 c4 ⊢
  refine zw_some ⟨(((f1.mono (by omega)).trans (f2.mono (by omega))).trans (f3.mono (by omega))).trans (f4.mono (by omega)), ?_, ?_, ?_, fun i hi => ?_, fun i hi => ?_, fun i hi => ?_⟩
  · show gI g3 th 0 = _
    rw [f4.i (by omega), f3.i (by omega), f2.i (by omega)]; exact v0
  · show gI g3 th 1 = _
    rw [f4.i (by omega), f3.i (by omega), f2.i (by omega)]; exact v1
  · show gI g3 th 2 = _
    rw [f4.i (by omega), f3.i (by omega), f2.i (by omega)]; exact v2
  · show gI g3 (th + 1) i = _
    rw [f4.i (by omega), f3.i (by omega), c2 i hi, f1.i (by omega)]
  · show gI g3 (th + 2) i = _
    rw [f4.i (by omega), c3 i hi, f2.i (by omega), f1.i (by omega)]
  · show gI g3 (th + 3) i = _
    rw [c4 i hi, f3.i (by omega), f2.i (by omega), f1.i (by omega)]
/-- the reference's four rows -/
theorem r_copy {a0 a1 a2 a3 b0 b1' b2 b3 : Nat} {H : AH} (hab : (a0 = 269 ∧ a1 = 271 ∧ a2 = 272 ∧ a3 = 275 ∧ b0 = 270 ∧ b1' = 273 ∧ b2 = 274 ∧ b3 = 276) ∨ (b0 = 269 ∧ b1' = 271 ∧ b2 = 272 ∧ b3 = 275 ∧ a0 = 270 ∧ a1 = 273 ∧ a2 = 274 ∧ a3 = 276)) {w : Int32} : zw (bd (s_X10_copies (some a0) (some b0) H) fun q1 => bd (s_X10_copies (some a1) (some b1') q1.2) fun q2 => bd (s_X10_copies (some a2) (some b2) q2.2) fun q3 => bd (s_X10_copies (some a3) (some b3) q3.2) fun q4 => some (w, q4.2)) (fun r => r.1 = w ∧ Fr (fun a _ => a = b0 ∨ a = b1' ∨ a = b2 ∨ a = b3) H r.2 ∧ (∀ i, i < 2 → gI r.2 b0 i = gI H a0 i) ∧ (∀ i, i < 360 → gI r.2 b1' i = gI H a1 i) ∧ (∀ i, i < 360 → gI r.2 b2 i = gI H a2 i) ∧ (∀ i, i < 160 → gI r.2 b3 i = gI H a3 i)) := by
  have l : LAY a0 = (1, 2) ∧ LAY a1 = (1, 360) ∧ LAY a2 = (1, 360) ∧ LAY a3 = (1, 160) ∧ LAY b0 = (1, 2) ∧ LAY b1' = (1, 360) ∧ LAY b2 = (1, 360) ∧ LAY b3 = (1, 160) := by
    rcases hab with ⟨rfl, rfl, rfl, rfl, rfl, rfl, rfl, rfl⟩ | ⟨rfl, rfl, rfl, rfl, rfl, rfl, rfl, rfl⟩ <;> decide +kernel
  obtain ⟨l0, l1, l2, l3, m0, m1, m2, m3⟩ := l
  refine zw_bd (copies_ok (n := 2) (by omega) l0 m0) ?_
  rintro ⟨u1, g1⟩ ⟨f1, c1⟩
  dsimp only at f1 c1 ⊢
  refine zw_bd (copies_ok (n := 360) (by omega) l1 m1) ?_
  rintro ⟨u2, g2⟩ ⟨f2, c2⟩
  dsimp only at f2 c2 ⊢
  refine zw_bd (copies_ok (n := 360) (by omega) l2 m2) ?_
  rintro ⟨u3, g3⟩ ⟨f3, c3⟩
  dsimp only at f3 c3 ⊢
  refine zw_bd (copies_ok (n := 160) (by omega) l3 m3) ?_
  rintro ⟨u4, g4⟩ ⟨f4, c4⟩
  dsimp only at f4 c4 ⊢
  refine zw_some ⟨rfl, (((f1.mono (by omega)).trans (f2.mono (by omega))).trans (f3.mono (by omega))).trans (f4.mono (by omega)), fun i hi => ?_, fun i hi => ?_, fun i hi => ?_, fun i hi => ?_⟩
  · show gI g4 b0 i = _
    rw [f4.i (by omega), f3.i (by omega), f2.i (by omega), c1 i hi]
  · show gI g4 b1' i = _
    rw [f4.i (by omega), f3.i (by omega), c2 i hi, f1.i (by omega)]
  · show gI g4 b2 i = _
    rw [f4.i (by omega), c3 i hi, f2.i (by omega), f1.i (by omega)]
  · show gI g4 b3 i = _
    rw [c4 i hi, f3.i (by omega), f2.i (by omega), f1.i (by omega)]
theorem g_image (x : IVd D T h) : ∃ v h1 h2, s_X9_image h = some (v, h1) ∧ s_X10_image h1 = some (v, h2) ∧ IV h2 := by
  rcases x.run.1 with ⟨f1, f2⟩ | ⟨f1, f2, rr⟩
  · refine ⟨0, h, sI h 240 0 0, by unfold s_X9_image; rw [if_pos f1], ?_, D, T, x.z⟩
    unfold s_X10_image
    rw [if_pos (by rw [gI_sI, if_neg (by omega)]; exact f2)]
  · obtain ⟨⟨u, g1⟩, e1, fc, c0, c1, c2, k1, k2, k3⟩ := c_copy (h := h) (th := 228) (oa := 224) (Or.inr ⟨rfl, rfl⟩) (Or.inr f1)
    dsimp only at fc c0 c1 c2 k1 k2 k3
    obtain ⟨⟨v, g2⟩, e2, hv, fr, r0, r1, r2, r3⟩ := r_copy (a0 := 269) (a1 := 271) (a2 := 272) (a3 := 275) (b0 := 270) (b1' := 273) (b2 := 274) (b3 := 276) (H := sI (sI g1 240 0 0) 240 59 1) (Or.inl ⟨rfl, rfl, rfl, rfl, rfl, rfl, rfl, rfl⟩) (w := 1)
    dsimp only at hv fr r0 r1 r2 r3
    subst hv
    have fm : Fr (fun a k => (228 ≤ a ∧ a ≤ 231) ∨ (a = 240 ∧ (k = 0 ∨ k = 59))) h (sI (sI g1 240 0 0) 240 59 1) := ((fc.mono (by omega) : Fr (fun a k => (228 ≤ a ∧ a ≤ 231) ∨ (a = 240 ∧ (k = 0 ∨ k = 59))) h g1).sI (by omega)).sI (by omega)
    have fz : Fr (fun a k => (228 ≤ a ∧ a ≤ 231) ∨ (a = 240 ∧ (k = 0 ∨ k = 59)) ∨ a = 270 ∨ a = 273 ∨ a = 274 ∨ a = 276) h g2 := (fm.mono (by omega)).trans (fr.mono (by omega))
    have fg : Fr (fun a k => (a = 240 ∧ (k = 0 ∨ k = 59)) ∨ a = 270 ∨ a = 273 ∨ a = 274 ∨ a = 276) g1 g2 := ((((Fr.refl (fun a k => (a = 240 ∧ (k = 0 ∨ k = 59)) ∨ a = 270 ∨ a = 273 ∨ a = 274 ∨ a = 276) g1).sI (by omega)).sI (by omega))).trans (fr.mono (by omega))
    have b1r : RBoth D 224 58 269 271 272 275 g2 := x.run.1.fr fz x.wf.K6 (by omega)
    have s59 : gI g2 240 59 = 1 := by rw [fr.i (by omega), gI_sI, if_pos ⟨rfl, rfl⟩]
    have s228 : gI g2 228 0 = 1 := by rw [fg.i (by omega), c0]; exact f1
    refine ⟨1, g1, g2, ?_, ?_, D, T, x.frV (fz.mono (by unfold rA SC; omega)) ⟨b1r, Or.inr ⟨s228, s59, ?_⟩⟩⟩
    · unfold s_X9_image
      rw [if_neg (by rw [f1]; decide), e1, bd_v]
    · unfold s_X10_image
      rw [if_neg (by rw [gI_sI, if_neg (by omega), fc.i (by omega), f2]; decide)]
      exact e2
    · refine RRun.cp x.wf x.w6 rr ?_ ?_ (fun i hi => ?_) (fun i hi => ?_) (fun i hi => ?_) (fun i hi => ?_) (fun i hi => ?_) (fun i hi => ?_) (fun i hi => ?_)
      · rw [fg.i (by omega), c1]
      · rw [fg.i (by omega), c2]
      · rw [fg.i (by omega), k1 i hi]
      · rw [fg.i (by omega), k2 i hi]
      · rw [fg.i (by omega), k3 i hi]
      · rw [r0 i hi, fm.i (by omega)]
      · rw [r1 i hi, fm.i (by omega)]
      · rw [r2 i hi, fm.i (by omega)]
      · rw [r3 i hi, fm.i (by omega)]
theorem g_restore (x : IVd D T h) : ∃ v h1 h2, s_X9_restore h = some (v, h1) ∧ s_X10_restore h1 = some (v, h2) ∧ IV h2 := by
  rcases x.run.2 with ⟨f1, f2⟩ | ⟨f1, f2, rr⟩
  · refine ⟨0, h, sI h 240 0 0, by unfold s_X9_restore; rw [if_pos f1], ?_, D, T, x.z⟩
    unfold s_X10_restore
    rw [if_pos (by rw [gI_sI, if_neg (by omega)]; exact f2)]
  · obtain ⟨⟨u, g1⟩, e1, fc, c0, c1, c2, k1, k2, k3⟩ := c_copy (h := h) (th := 224) (oa := 228) (Or.inl ⟨rfl, rfl⟩) (Or.inr f1)
    dsimp only at fc c0 c1 c2 k1 k2 k3
    obtain ⟨⟨v, g2⟩, e2, hv, fr, r0, r1, r2, r3⟩ := r_copy (a0 := 270) (a1 := 273) (a2 := 274) (a3 := 276) (b0 := 269) (b1' := 271) (b2 := 272) (b3 := 275) (H := sI (sI g1 240 0 0) 240 58 1) (Or.inr ⟨rfl, rfl, rfl, rfl, rfl, rfl, rfl, rfl⟩) (w := 1)
    dsimp only at hv fr r0 r1 r2 r3
    subst hv
    have fm : Fr (fun a k => (224 ≤ a ∧ a ≤ 227) ∨ (a = 240 ∧ (k = 0 ∨ k = 58))) h (sI (sI g1 240 0 0) 240 58 1) := ((fc.mono (by omega) : Fr (fun a k => (224 ≤ a ∧ a ≤ 227) ∨ (a = 240 ∧ (k = 0 ∨ k = 58))) h g1).sI (by omega)).sI (by omega)
    have fz : Fr (fun a k => (224 ≤ a ∧ a ≤ 227) ∨ (a = 240 ∧ (k = 0 ∨ k = 58)) ∨ a = 269 ∨ a = 271 ∨ a = 272 ∨ a = 275) h g2 := (fm.mono (by omega)).trans (fr.mono (by omega))
    have fg : Fr (fun a k => (a = 240 ∧ (k = 0 ∨ k = 58)) ∨ a = 269 ∨ a = 271 ∨ a = 272 ∨ a = 275) g1 g2 := ((((Fr.refl (fun a k => (a = 240 ∧ (k = 0 ∨ k = 58)) ∨ a = 269 ∨ a = 271 ∨ a = 272 ∨ a = 275) g1).sI (by omega)).sI (by omega))).trans (fr.mono (by omega))
    have b2r : RBoth D 228 59 270 273 274 276 g2 := x.run.2.fr fz x.wf.K6 (by omega)
    have s58 : gI g2 240 58 = 1 := by rw [fr.i (by omega), gI_sI, if_pos ⟨rfl, rfl⟩]
    have s224 : gI g2 224 0 = 1 := by rw [fg.i (by omega), c0]; exact f1
    refine ⟨1, g1, g2, ?_, ?_, D, T, x.frV (fz.mono (by unfold rA SC; omega)) ⟨Or.inr ⟨s224, s58, ?_⟩, b2r⟩⟩
    · unfold s_X9_restore
      rw [if_neg (by rw [f1]; decide), e1, bd_v]
    · unfold s_X10_restore
      rw [if_neg (by rw [gI_sI, if_neg (by omega), fc.i (by omega), f2]; decide)]
      exact e2
    · refine RRun.cp x.wf x.w6 rr ?_ ?_ (fun i hi => ?_) (fun i hi => ?_) (fun i hi => ?_) (fun i hi => ?_) (fun i hi => ?_) (fun i hi => ?_) (fun i hi => ?_)
      · rw [fg.i (by omega), c1]
      · rw [fg.i (by omega), c2]
      · rw [fg.i (by omega), k1 i hi]
      · rw [fg.i (by omega), k2 i hi]
      · rw [fg.i (by omega), k3 i hi]
      · rw [r0 i hi, fm.i (by omega)]
      · rw [r1 i hi, fm.i (by omega)]
      · rw [r2 i hi, fm.i (by omega)]
      · rw [r3 i hi, fm.i (by omega)]
end
