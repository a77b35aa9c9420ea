/-! constructors: what is made, and the final fields -/
def Blank (h : AH) (a : Nat) : Prop := (∀ k, h.1 a k = 0) ∧ (∀ k, h.2.1 a k = 0) ∧ ∀ k, h.2.2 a k = none
def dcode (t : FieldType) : Nat := match t with | .int => 0 | .boolean => 0 | .long => 1 | .object _ => 2 | .array _ => 2 | _ => 9
def dval (d : Nat) : Value := match d with | 0 => .int 0 | 1 => .long 0 | _ => .null
theorem dcode_val {t : FieldType} (h : dcode t < 9) : defaultValue t = dval (dcode t) := by
  cases t <;> first | rfl | (exact absurd h (by decide))
theorem cl_dc : ∀ ci, ci < 11 → ∀ k, k < clN ci → dcode (clTy ci k) = min 2 ((FT ci).getD k (0, 0)).1 := by decide +kernel
theorem blank_field {g : GP} {h : AH} {n k : Nat} {q : Nat × Nat} (hF : gF g = false) (hb : Blank h n) : fieldV g (h.1 n) (h.2.1 n) (h.2.2 n) n q k = dval (min 2 q.1) := by
  obtain ⟨c, z⟩ := q
  match c with
  | 0 => show Value.int (h.1 n k) = _; rw [hb.1]; rfl
  | 1 => show Value.long (h.2.1 n k) = _; rw [hb.2.1]; rfl
  | 2 => show va_rf ((h.2.2 n k).map (ad g)) = _; rw [hb.2.2]; rfl
  | c + 3 =>
    show (if gF g then Value.ref (ad g (n + z)) else va_rf ((h.2.2 n k).map (ad g))) = _
    rw [if_neg (by rw [hF]; decide), hb.2.2, show min 2 (c + 3) = 2 by omega]
    rfl
theorem blank_fs {g : GP} {h : AH} {n ci : Nat} (hF : gF g = false) (hb : Blank h n) (hci : ci < 11) (j : Nat) (hj : j < clN ci) : defaultValue (clTy ci j) = vp_V (fieldsV g (h.1 n) (h.2.1 n) (h.2.2 n) n ci) j := by
  have e := cl_dc ci hci j hj
  have hl : j < (FT ci).length := by rw [cl_len ci hci]; exact hj
  unfold vp_V
  rw [List.getD_eq_getElem?_getD, fieldsV_get hl, Option.getD_some, blank_field hF hb, ← e]
  exact dcode_val (by rw [e]; omega)
section CT
variable {g : GP} {own : String} {cc : ByteArray} {lev mcR msR : Nat} {ret : Option FieldType} {tb : List ExceptionTableEntry} {X : MX}
variable {n : Nat} {ex : Bool} {nc ns : Nat} {Q : State → Prop} {h : AH} {pc : Nat} {lv st : List Value}
theorem ad_top {H : Heap} (hn : n + 1 ≤ 100000) (hW : Wo g n true h H) : ad g n = H.size := by
  unfold ad
  rw [if_pos (by omega), hW.2.2 rfl]
theorem Wo_push {H H1 : Heap} (hW : Wo g n true h H) (z1 : H1.size = H.size + 1) (o1 : ∀ q, q < H.size → H1[q]? = H[q]?) (he : va_at g.2.1 classes (ad g n, entry g h n) H1) : Wo g (n + 1) true h H1 := by
  have hz := hW.2.2 rfl
  refine ⟨?_, by have := hW.2.1; omega, fun _ => by omega⟩
  rw [← wsOf_push (e := entry g h n) rfl (fun b _ => rfl)]
  refine (hW.1.kept (fun k x hx => o1 x.1 ((hW.1 k x hx).lt))).app (fun k x hx => ?_)
  have hk : k < 1 := (List.getElem?_eq_some_iff.mp hx).1
  rw [show k = 0 by omega] at hx
  cases hx
  exact he
theorem vaS_push {H0 H H1 : Heap} {A : Nat → Prop} {locs : List Loc} (hS : va_S A H0 H locs) (z1 : H1.size = H.size + 1) (o1 : ∀ q, q < H.size → H1[q]? = H[q]?) : va_S A H0 H1 locs :=
  ⟨Nat.le_trans hS.1 (by omega), fun x h1 h2 => (o1 x (Nat.lt_of_lt_of_le h1 hS.1)).trans (hS.2.1 x h1 h2), hS.2.2⟩
theorem aw_new (hX : Cx g own cc lev mcR msR ret tb X) (hF : gF g = false) {idx ci : Nat} (hl : LAY n = (0, ci)) (hn : n + 1 ≤ 100000) (hci : Nat.ble (ci + 1) 11 = true) (hb : Blank h n) (hcl : Cond.classLink own idx (clC ci) ∈ W0) (hinst : Cond.instantiable (clC ci) (clN ci) ∈ W0) (hini : Cond.initialized (clC ci) ∈ W0)
    (hc : nc + 1 ≤ mcR) (hs : ns + clN ci ≤ msR) (hd : decode cc pc = .ok (.new idx, 3)) (k : AW g X (n + 1) true (nc + 1) (ns + clN ci) Q h (pc + 3) lv (.ref n :: st)) : AW g X n true nc ns Q h pc lv st := fun ls H locs hlv hW hS => by
  obtain ⟨hfr, hlo, hce, hsl⟩ := hX.2.2.2.2.2.2.2.1
  have hci' := Nat.le_of_ble_eq_true hci
  have hts := hX.2.2.2.1
  have hKn := hX.2.2.2.2.1.1 ci _ (cl_ok ci hci')
  have had := ad_top hn hW
  refine W.newcK hX.1 hX.2.1 hX.2.2.1 (hts _ hcl) (hts _ hinst) (hts _ hini) rfl hd (by rw [hce]; exact hc) (by rw [hsl]; exact hs) hKn.2.1 rfl fun H1 kC hkC e1 z1 o1 => ?_
  have hWo : Wo g (n + 1) true h H1 := Wo_push hW z1 o1 (by
    rw [entry_obj hl, had]
    exact ⟨_, cl_ok ci hci', (u_born (clTy ci) hts (cl_in ci hci') hKn hkC e1 (cl_ty ci hci')).to (blank_fs hF hb hci')⟩)
  have := k ls H1 locs hlv hWo (vaS_push hS z1 o1)
  rw [List.map_cons, show tr g (.ref n) = .ref H.size by rw [← had]; rfl] at this
  exact this
theorem aw_newG (hX : Cx g own cc lev mcR msR ret tb X) {atype : ArrayType} {t N : Nat} {v : Int32} {a0 : vp_A} (ht : (tysOf g)[t]? = some (g.2.2.1 t, newarray.typeOf atype)) (he : entry g h n = .inl (g.2.2.1 t, a0)) (ha : ∀ cA : ClassId, vp_cell cA a0 = arrV cA N (fun _ => defaultValue (newarray.typeOf atype))) (hn : n + 1 ≤ 100000) (hv : ¬ v < 0) (hN : v.toNatClampNeg = N) (hby : N * componentBytes (newarray.typeOf atype) ≤ 536870912) (har : Cond.arrayClass (newarray.typeOf atype) ∈ W0)
    (hc : nc + 1 ≤ mcR) (hs : ns + N ≤ msR) (hd : decode cc pc = .ok (.newarray atype, 2)) (k : AW g X (n + 1) true (nc + 1) (ns + N) Q h (pc + 2) lv (.ref n :: st)) : AW g X n true nc ns Q h pc lv (.int v :: st) := fun ls H locs hlv hW hS => by
  obtain ⟨hfr, hlo, hce, hsl⟩ := hX.2.2.2.2.2.2.2.1
  have had := ad_top hn hW
  refine va_newaK hX.1 hX.2.1 (hX.2.2.2.1 _ har) rfl hd rfl hv hN hby (by rw [hce]; exact hc) (by rw [hsl]; exact hs) rfl fun H1 cA e1 z1 o1 hAr hNm => ?_
  have hra := (hX.2.2.2.2.1.2 t _ ht).2
  have hid : cA = g.2.2.1 t := by
    have h2 : X.s.vm.findClass ("[" ++ (newarray.typeOf atype).toString) = some (g.2.2.1 t) := by cases atype <;> exact hra
    exact Option.some.inj (hNm.symm.trans h2)
  have hWo : Wo g (n + 1) true h H1 := Wo_push hW z1 o1 (by
    rw [he, had]
    show H1[H.size]? = some (vp_cell _ _)
    rw [ha, ← hid]
    exact e1)
  have := k ls H1 locs hlv hWo (vaS_push hS z1 o1)
  rw [List.map_cons, show tr g (.ref n) = .ref H.size by rw [← had]; rfl] at this
  exact this
theorem blank_i {f : Nat → Int32} (hf : ∀ k, f k = 0) (N : Nat) (cA : ClassId) : vp_cell cA (N, .inl f) = arrV cA N (fun _ => .int 0) := by
  rw [vp_cell_i]
  congr 1
  funext j
  rw [hf]
theorem aw_newI (hX : Cx g own cc lev mcR msR ret tb X) {N : Nat} {v : Int32} (hl : LAY n = (1, N)) (hb : Blank h n) (hn : n + 1 ≤ 100000) (hv : ¬ v < 0) (hN : v.toNatClampNeg = N) (hby : N * 4 ≤ 536870912) (har : Cond.arrayClass .int ∈ W0)
    (hc : nc + 1 ≤ mcR) (hs : ns + N ≤ msR) (hd : decode cc pc = .ok (.newarray .int, 2)) (k : AW g X (n + 1) true (nc + 1) (ns + N) Q h (pc + 2) lv (.ref n :: st)) : AW g X n true nc ns Q h pc lv (.int v :: st) :=
  aw_newG (t := 0) (atype := .int) hX rfl (entry_int hl) (blank_i hb.1 N) hn hv hN hby har hc hs hd k
theorem aw_newZ (hX : Cx g own cc lev mcR msR ret tb X) {N : Nat} {v : Int32} (hl : LAY n = (3, N)) (hb : Blank h n) (hn : n + 1 ≤ 100000) (hv : ¬ v < 0) (hN : v.toNatClampNeg = N) (hby : N * 1 ≤ 536870912) (har : Cond.arrayClass .boolean ∈ W0)
    (hc : nc + 1 ≤ mcR) (hs : ns + N ≤ msR) (hd : decode cc pc = .ok (.newarray .boolean, 2)) (k : AW g X (n + 1) true (nc + 1) (ns + N) Q h (pc + 2) lv (.ref n :: st)) : AW g X n true nc ns Q h pc lv (.int v :: st) :=
  aw_newG (t := 2) (atype := .boolean) hX rfl (entry_bool hl) (blank_i hb.1 N) hn hv hN hby har hc hs hd k
theorem aw_newL (hX : Cx g own cc lev mcR msR ret tb X) {N : Nat} {v : Int32} (hl : LAY n = (2, N)) (hb : Blank h n) (hn : n + 1 ≤ 100000) (hv : ¬ v < 0) (hN : v.toNatClampNeg = N) (hby : N * 8 ≤ 536870912) (har : Cond.arrayClass .long ∈ W0)
    (hc : nc + 1 ≤ mcR) (hs : ns + N ≤ msR) (hd : decode cc pc = .ok (.newarray .long, 2)) (k : AW g X (n + 1) true (nc + 1) (ns + N) Q h (pc + 2) lv (.ref n :: st)) : AW g X n true nc ns Q h pc lv (.int v :: st) :=
  aw_newG (t := 1) (atype := .long) hX rfl (entry_long hl) (fun cA => by
    show arrV cA N (fun j => Value.long (h.2.1 n j)) = _
    congr 1
    funext j
    rw [hb.2.1]
    rfl) hn hv hN hby har hc hs hd k
theorem aw_anew (hX : Cx g own cc lev mcR msR ret tb X) {idx N : Nat} {v : Int32} (hl : LAY n = (4, N)) (hb : Blank h n) (hn : n + 1 ≤ 100000) (hv : ¬ v < 0) (hN : v.toNatClampNeg = N) (hby : N * 4 ≤ 536870912) (hcl : Cond.classLink own idx "SeatHall$Plan" ∈ W0)
    (hc : nc + 1 ≤ mcR) (hs : ns + N ≤ msR) (hd : decode cc pc = .ok (.anewarray idx, 3)) (k : AW g X (n + 1) true (nc + 1) (ns + N) Q h (pc + 3) lv (.ref n :: st)) : AW g X n true nc ns Q h pc lv (.int v :: st) := fun ls H locs hlv hW hS => by
  obtain ⟨hfr, hlo, hce, hsl⟩ := hX.2.2.2.2.2.2.2.1
  have had := ad_top hn hW
  subst hN
  refine W.anew hX.1 hX.2.1 hX.2.2.1 (hX.2.2.2.1 _ hcl) (va_AO.use hX.2.2.2.2.2.1.2.2.2.2.2.2.1) rfl hd rfl hv hby (by rw [hce]; exact hc) (by rw [hsl]; exact hs) fun cA kA comp h1 h2 h3 h4 => ?_
  obtain ⟨kA', comp', -, -, -, k4⟩ := (hX.2.2.2.2.1.2 3 _ rfl).2
  have hid : cA = g.2.2.1 3 := Option.some.inj (h1.symm.trans k4)
  rw [arrV_new]
  have z1 : (H.push (arrV cA v.toNatClampNeg (fun _ => Value.null))).size = H.size + 1 := by simp
  have o1 : ∀ q, q < H.size → (H.push (arrV cA v.toNatClampNeg (fun _ => Value.null)))[q]? = H[q]? := fun q hq => by rw [Array.getElem?_push, if_neg (Nat.ne_of_lt hq)]
  have hWo : Wo g (n + 1) true h (H.push (arrV cA v.toNatClampNeg (fun _ => Value.null))) := Wo_push hW z1 o1 (by
    rw [entry_ref hl, had]
    show (H.push _)[H.size]? = some (vp_cell _ _)
    rw [← hid, vp_cell_q, show (fun j => va_rf ((h.2.2 n j).map (ad g))) = fun _ => Value.null from funext fun j => by rw [hb.2.2]; rfl]
    simp)
  have := k ls _ locs hlv hWo (vaS_push hS z1 o1)
  rw [List.map_cons, show tr g (.ref n) = .ref H.size by rw [← had]; rfl] at this
  exact this
theorem aw_objI (hX : Cx g own cc lev mcR msR ret tb X) {idx a : Nat} (hlk : Cond.methodLink own idx Lib.objectInit ∈ W0) (hin : Cond.instanceMethod Lib.objectInit ∈ W0) (hco : Cond.code Lib.objectInit ⟨#[0xb1]⟩ 1 none ∈ W0) (hlev : 1 ≤ lev) (hst : stW st ≤ 8) (hd : decode cc pc = .ok (.invokespecial idx, 3))
    (k : AW g X n ex nc ns Q h (pc + 3) lv st) : AW g X n ex nc ns Q h pc lv (.ref a :: st) := fun ls H locs hlv hW hS => by
  obtain ⟨hfr, hlo, hce, hsl⟩ := hX.2.2.2.2.2.2.2.1
  have hr : 2 * (F0 X.m pc ls (tr g (.ref a) :: st.map (tr g))).monitorRoom + ((st.map (tr g)).map fun v => v.category).sum ≤ 8 := lv_room (by rw [cat_tr]; exact hst)
  exact W.objInit (rest := st.map (tr g)) hX.1 hX.2.1 hX.2.2.1 (hX.2.2.2.1 _ hlk) (hX.2.2.2.1 _ hin) (hX.2.2.2.1 _ hco) rfl hlv.1 rfl hd (Nat.le_trans hlev hfr) (Nat.le_trans (Nat.add_le_add_right hr 12) (by omega)) (k ls H locs hlv hW hS)
/-- a final field, in its own constructor -/
theorem aw_putFG (hX : Cx g own cc lev mcR msR ret tb X) (hini : X.meth.name = "<init>") {idx ci k a : Nat} {v : Value} {h' : AH} {ty : FieldType} (hl : LAY a = (0, ci)) (ha : a < n) (hn : n ≤ 100000) (hk : Nat.ble (k + 1) (clN ci) = true) (hci : Nat.ble (ci + 1) 11 = true) (hf : FL own idx ci k) (hfin : (clT ci k).2.2.2 = true) (hdecl : (clT ci k).1 = own) (hdt : parseFieldDescriptor (clT ci k).2.2.1 = some ty) (hnar : narrow ty (tr g v) = tr g v) (hfit : fits ty (tr g v) = true)
    (he : .inr (ci, (fieldsV g (h.1 a) (h.2.1 a) (h.2.2 a) a ci).set k (tr g v)) = entry g h' a) (ho : ∀ b, b ≠ a → entry g h b = entry g h' b) (hd : decode cc pc = .ok (.putfield idx, 3))
    (kk : AW g X n ex nc ns Q h' (pc + 3) lv st) : AW g X n ex nc ns Q h pc lv (v :: .ref a :: st) := fun ls H locs hv2 hW hS0 => by
  have hci' := Nat.le_of_ble_eq_true hci
  have hk' := Nat.le_of_ble_eq_true hk
  have hin := cl_in ci hci'
  have hc := cl_ok ci hci'
  have hts := hX.2.2.2.1
  have hK := hX.2.2.2.2.1
  have hD := wsOf_D g n h hn
  have hea : (wsOf g n h)[a]? = some (ad g a, .inr (ci, fieldsV g (h.1 a) (h.2.1 a) (h.2.2 a) a ci)) := (wsOf_get ha).trans (by rw [entry_obj hl])
  have hlen : k < (fieldsV g (h.1 a) (h.2.1 a) (h.2.2 a) a ci).length := by rw [fieldsV_len, cl_len ci hci']; exact hk'
  have hap := va_apart (own := own) hts hin (clTy ci) (cl_ty ci hci') (cl_nm ci hci') hK hc
  obtain ⟨r, h1, cell, q1, q2, q3, q4⟩ := hW.1 a _ hea
  have hr : r = (clC ci, clT ci, clN ci) := Option.some.inj (h1.symm.trans hc)
  subst hr
  obtain ⟨hS, hfc, kC, hkC, hkind⟩ := hK.1 ci _ hc
  obtain ⟨cf, kf, fi, f, hi, hsl⟩ := hS k hk'
  have hlay := hts _ (hin _ (u_in_lay hk'))
  unfold u_lay at hlay
  rw [if_pos hfin] at hlay
  have hst := (u_facts hfc hkC (u_lays hts hin hk') hi).1
  have hcf : X.m.cls = cf := by
    obtain ⟨_, _, c', _, _, _, -, -, hf', -, -, -, hown2, -⟩ := Cond.laysFinal_spec hlay
    have e1 : c' = cf := by have := hi.symm.trans hf'; simp at this; exact this.1.symm
    rw [hdecl] at hown2
    rw [← e1]
    exact Option.some.inj (hX.2.2.1.symm.trans hown2)
  have h6 := u_fits hfc hkC hkind (Or.inr hlay) hi hdt hnar hfit
  refine W.putFinK hX.1 hX.2.1 hX.2.2.1 (hts _ hf) hi hst hcf hini (by rw [q2]; exact h6) q1 q3 (by rw [hsl]; exact k2_hasslot (q4 k hk')) rfl rfl hd fun H' e1 e2 e3 => ?_
  rw [hsl] at e1 ⊢
  exact kk ls H' _ hv2 (Wo_set hW ha he ho e2 (hW.1.set hD hea ⟨_, hc, t_OB.to (V := updV (vp_V (fieldsV g (h.1 a) (h.2.1 a) (h.2.2 a) a ci)) k (tr g v)) ⟨_, e1, q2, q3, t_set q4 hap hk' (tr g v)⟩ (fun j _ => vp_updV_set hlen (tr g v) j)⟩ e3)) (hS0.put e2 e3 (hD.2 a _ hea))
theorem aw_putFI (hX : Cx g own cc lev mcR msR ret tb X) (hini : X.meth.name = "<init>") {idx ci k a : Nat} {v : Int32} (hl : LAY a = (0, ci)) (ha : a < n) (hn : n ≤ 100000) (hk : Nat.ble (k + 1) (clN ci) = true) (hci : Nat.ble (ci + 1) 11 = true) (hf : FL own idx ci k) (hfin : (clT ci k).2.2.2 = true) (hdecl : (clT ci k).1 = own) (hdt : parseFieldDescriptor (clT ci k).2.2.1 = some .int) (hq : (FT ci).getD k (0, 0) = (0, 0)) (hd : decode cc pc = .ok (.putfield idx, 3))
    (kk : AW g X n ex nc ns Q (sI h a k v) (pc + 3) lv st) : AW g X n ex nc ns Q h pc lv (.int v :: .ref a :: st) := by
  refine aw_putFG hX hini hl ha hn hk hci hf hfin hdecl hdt rfl rfl ?_ (fun b hb => entry_sI hb) hd kk
  rw [entry_obj hl]
  congr 2
  have hci' := Nat.le_of_ble_eq_true hci
  have hk' := Nat.le_of_ble_eq_true hk
  refine fieldsV_set (by rw [cl_len ci hci']; exact hk') ?_ (fun j hj => ?_) (fun j hj => rfl) (fun j hj => rfl)
  · rw [hq]
    show Value.int v = .int (up2 h.1 a k v a k)
    simp [up2]
  · show h.1 a j = up2 h.1 a k v a j
    simp [up2, hj]
theorem aw_putFR (hX : Cx g own cc lev mcR msR ret tb X) (hini : X.meth.name = "<init>") (hF : gF g = false) {idx ci k a b z : Nat} {ty : FieldType} (hl : LAY a = (0, ci)) (ha : a < n) (hn : n ≤ 100000) (hk : Nat.ble (k + 1) (clN ci) = true) (hci : Nat.ble (ci + 1) 11 = true) (hf : FL own idx ci k) (hfin : (clT ci k).2.2.2 = true) (hdecl : (clT ci k).1 = own) (hdt : parseFieldDescriptor (clT ci k).2.2.1 = some ty) (hnar : ∀ x, narrow ty (.ref x) = .ref x) (hfit : ∀ x, fits ty (.ref x) = true) (hq : (FT ci).getD k (0, 0) = (3, z)) (hd : decode cc pc = .ok (.putfield idx, 3))
    (kk : AW g X n ex nc ns Q (sR h a k (some b)) (pc + 3) lv st) : AW g X n ex nc ns Q h pc lv (.ref b :: .ref a :: st) := by
  refine aw_putFG hX hini hl ha hn hk hci hf hfin hdecl hdt (hnar _) (hfit _) ?_ (fun b hb => entry_sR hb) hd kk
  rw [entry_obj hl]
  congr 2
  have hci' := Nat.le_of_ble_eq_true hci
  have hk' := Nat.le_of_ble_eq_true hk
  refine fieldsV_set (by rw [cl_len ci hci']; exact hk') ?_ (fun j hj => rfl) (fun j hj => rfl) (fun j hj => ?_)
  · rw [hq]
    show Value.ref (ad g b) = if gF g then Value.ref (ad g (a + z)) else va_rf ((up2 h.2.2 a k (some b) a k).map (ad g))
    rw [if_neg (by rw [hF]; decide), show up2 h.2.2 a k (some b) a k = some b by simp [up2]]
    rfl
  · show h.2.2 a j = up2 h.2.2 a k (some b) a j
    simp [up2, hj]
/-- a constructor is called -/
theorem aw_callI (hX : Cx g own cc lev mcR msR ret tb X) {y : MethodName} {cy : ByteArray} {mLy levy mcy msy idx b np : Nat} {av avr : List Value} {n' : Nat} {ex' : Bool} {h' : AH}
    (hct : Ctr g y (wsY y cy mLy none) levy mcy msy (.ref b :: av) n ex h none n' ex' h') (hm : MI y cy mLy none np) (hav : av.reverse = avr) (hnp : av.length = np) (hlk : Cond.methodLink own idx y ∈ W0) (hin : Cond.instanceMethod y ∈ W0) (hy : y.name = "<init>") (hlt : levy < lev)
    (hst : stW st ≤ 8) (hc : nc + mcy ≤ mcR) (hs : ns + msy ≤ msR) (hd : decode cc pc = .ok (.invokespecial idx, 3))
    (k : AW g X n' ex' (nc + mcy) (ns + msy) Q h' (pc + 3) lv st) : AW g X n ex nc ns Q h pc lv (avr ++ .ref b :: st) := fun ls H locs hlv hW hS => by
  obtain ⟨hfr, hlo, hce, hsl⟩ := hX.2.2.2.2.2.2.2.1
  have hts := hX.2.2.2.1
  rw [trs_rev hav]
  refine wx_call (mc := mcy) (ms := msy) (r := none) (rest := st.map (tr g)) (va_runI (As := trs g av) (ws := wsY y cy mLy none) (b := ad g b) (nL := X.c.maxLocals) (Ts := W0) (n := np) (index := idx) ⟨hX.1, hX.2.1, rfl, hX.2.2.1, hX.2.2.2.1⟩ hct
    (cwI np hts (w0_goodIn (wsY_in hm)) rfl rfl rfl (hts _ hm.2.1) (hts _ hlk) (hts _ hin) hy hm.2.2.1 (rm_le hlt hm.2.2.2 ⟨hfr, hlo⟩)) ⟨pre_blind _, fun U hU hWm => ⟨rfl, pre_at hX hW hS hU hWm⟩⟩ rfl (by rw [List.length_map]; exact hnp) hlv.1 rfl (lv_room (by rw [cat_tr]; exact hst)) hd ⟨by rw [hce]; exact hc, by rw [hsl]; exact hs⟩) hS (fun H1 locs1 hW1 hS1 => k ls H1 locs1 hlv hW1 hS1)
theorem aw_callIN (hX : Cx g own cc lev mcR msR ret tb X) {y : MethodName} {cy : ByteArray} {mLy levy mcy msy idx b np : Nat} {host : String} {av avr : List Value} {n' : Nat} {ex' : Bool} {h' : AH}
    (hct : Ctr g y (wsY y cy mLy none) levy mcy msy (.ref b :: av) n ex h none n' ex' h') (hm : MI y cy mLy none np) (hav : av.reverse = avr) (hnp : av.length = np) (hlk : Cond.methodLinkNest own idx y host ∈ fxW) (hin : Cond.instanceMethod y ∈ W0) (hy : y.name = "<init>") (hlt : levy < lev)
    (hst : stW st ≤ 8) (hc : nc + mcy ≤ mcR) (hs : ns + msy ≤ msR) (hd : decode cc pc = .ok (.invokespecial idx, 3))
    (k : AW g X n' ex' (nc + mcy) (ns + msy) Q h' (pc + 3) lv st) : AW g X n ex nc ns Q h pc lv (avr ++ .ref b :: st) := fun ls H locs hlv hW hS => by
  obtain ⟨hfr, hlo, hce, hsl⟩ := hX.2.2.2.2.2.2.2.1
  have hts := hX.2.2.2.1
  rw [trs_rev hav]
  exact wx_call (mc := mcy) (ms := msy) (r := none) (rest := st.map (tr g)) (va_runIN (As := trs g av) (ws := wsY y cy mLy none) (b := ad g b) (nL := X.c.maxLocals) (Ts := W0) (n := np) (index := idx) (host := host) ⟨hX.1, hX.2.1, rfl, hX.2.2.1, hX.2.2.2.1⟩ hct
    ⟨va_cnB np hts (w0_goodIn (wsY_in hm)) rfl rfl rfl (hX.2.2.2.2.2.1.1 _ hlk) (hts _ hm.2.1) hm.2.2.1 (rm_le hlt hm.2.2.2 ⟨hfr, hlo⟩), hy, hts _ hin⟩ ⟨pre_blind _, fun U hU hWm => ⟨rfl, pre_at hX hW hS hU hWm⟩⟩ rfl (by rw [List.length_map]; exact hnp) hlv.1 rfl (lv_room (by rw [cat_tr]; exact hst)) hd ⟨by rw [hce]; exact hc, by rw [hsl]; exact hs⟩) hS (fun H1 locs1 hW1 hS1 => k ls H1 locs1 hlv hW1 hS1)
/-- a plan is laid into the plans' array -/
theorem aw_aastore (hX : Cx g own cc lev mcR msR ret tb X) {a b N : Nat} {i : Int32} (hl : LAY a = (4, N)) (ha : a < n) (hlb : LAY b = (0, 2)) (hb : b < n) (hn : n ≤ 100000) (hi : vp_in i N) (hd : decode cc pc = .ok (.aastore, 1)) (kk : AW g X n ex nc ns Q (sR h a i.toNatClampNeg (some b)) (pc + 1) lv st) : AW g X n ex nc ns Q h pc lv (.ref b :: .int i :: .ref a :: st) := fun ls H locs hv2 hW hS => by
  have hD := wsOf_D g n h hn
  have hK := hX.2.2.2.2.1
  have hea : (wsOf g n h)[a]? = some (ad g a, .inl (g.2.2.1 3, N, .inr (.inr (.inr (.inr (fun i => (h.2.2 a i).map (ad g))))))) := (wsOf_get ha).trans (by rw [entry_ref hl])
  have heb : (wsOf g n h)[b]? = some (ad g b, .inr (2, fieldsV g (h.1 b) (h.2.1 b) (h.2.2 b) b 2)) := (wsOf_get hb).trans (by rw [entry_obj hlb])
  have hlt : i.toNatClampNeg < N := Nat.not_le.mp fun q => hi (Or.inr q)
  have h0 : ¬ i < 0 := fun q => hi (Or.inl q)
  obtain ⟨r', hr', cellV, g1, g2, g3, -⟩ := hW.1 b _ heb
  have hcls := (hK.1 2 _ (cl_ok 2 (by decide))).2
  obtain ⟨kA, comp, k1, k2, k3, -⟩ := (hK.2 3 _ rfl).2
  have hcomp : comp = g.2.1.1 2 := Option.some.inj (k3.symm.trans hcls.1)
  subst hcomp
  obtain ⟨kC, hkC, -⟩ := hcls.2
  refine W.aast hX.1 hX.2.1 (hW.1 a _ hea) (fun q h => by cases h) (fun h => by cases h) k1 k2 rfl hkC ⟨h0, by show _ < (arrV _ _ _).slots.size; rw [arrV_size]; exact hlt⟩ g1 (fun q h => by rw [g3] at h; cases h) (by rw [g2]; exact hkC) (by rw [g2]; exact va_assign hcls) rfl rfl hd fun H1 e z oq => ?_
  refine kk ls H1 _ hv2 (Wo_set (e := .inl (g.2.2.1 3, N, .inr (.inr (.inr (.inr (va_up (fun i => (h.2.2 a i).map (ad g)) i.toNatClampNeg (some (ad g b)))))))) hW ha ?_ (fun b hb => entry_sR hb) z (hW.1.set hD hea ?_ oq)) (hS.put z oq (hD.2 a _ hea))
  · rw [entry_ref hl]
    congr 7
    funext j
    show va_up _ _ _ j = (up2 h.2.2 a i.toNatClampNeg (some b) a j).map (ad g)
    by_cases q : j = i.toNatClampNeg
    · subst q; simp [up2, va_up]
    · simp [up2, va_up, q]
  · show H1[ad g a]? = some (vp_cell _ _)
    rw [e]
    rw [vp_cell_q, vp_cell_q, arrV_store]
    congr 2
    funext q
    by_cases hq : q = i.toNatClampNeg
    · subst hq
      simp [updV, va_up, va_rf]
    · simp [updV, va_up, hq]
end CT
