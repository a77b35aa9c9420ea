/-! fields and arrays -/
def clC (ci : Nat) : String := match ci with | 0 => RX0 | 1 => RX1 | 2 => RX2 | 3 => RX3 | 4 => RX4 | 5 => RX5 | 6 => RX6 | 7 => RX7 | 8 => RX8 | 9 => RX9 | _ => RX10
def clT (ci : Nat) : u_T := match ci with | 0 => TX0 | 1 => TX1 | 2 => TX2 | 3 => TX3 | 4 => TX4 | 5 => TX5 | 6 => TX6 | 7 => TX7 | 8 => TX8 | 9 => TX9 | _ => TX10
def clTy (ci : Nat) : Nat → FieldType := match ci with | 0 => tyX0 | 1 => tyX1 | 2 => tyX2 | 3 => tyX3 | 4 => tyX4 | 5 => tyX5 | 6 => tyX6 | 7 => tyX7 | 8 => tyX8 | 9 => tyX9 | _ => tyX10
def clN (ci : Nat) : Nat := match ci with | 0 => 5 | 1 => 5 | 2 => 12 | 3 => 10 | 4 => 6 | 5 => 8 | 6 => 7 | 7 => 2 | 8 => 13 | 9 => 13 | _ => 68
theorem cl_ok : ∀ ci, ci < 11 → classes[ci]? = some (clC ci, clT ci, clN ci) := fun ci h => by
  match ci, h with
  | 0, _ => rfl
  | 1, _ => rfl
  | 2, _ => rfl
  | 3, _ => rfl
  | 4, _ => rfl
  | 5, _ => rfl
  | 6, _ => rfl
  | 7, _ => rfl
  | 8, _ => rfl
  | 9, _ => rfl
  | 10, _ => rfl
theorem cl_len : ∀ ci, ci < 11 → (FT ci).length = clN ci := by decide +kernel
theorem mem_pl {big small : List Cond} (ps : List Nat) (h : small = ps.filterMap (fun i => big[i]?)) : ∀ w ∈ small, w ∈ big := by
  intro w hw
  rw [h] at hw
  obtain ⟨i, -, hi⟩ := List.mem_filterMap.mp hw
  exact List.mem_of_getElem? hi
theorem inw0 : ∀ w ∈ u_ws RX0 TX0 5, w ∈ W0 := fun w h => w0_tab w (mem_pl (big := tables_1) [243, 245, 247, 249, 251] (by decide +kernel) w h) (List.all_eq_true.mp (by decide +kernel : (u_ws RX0 TX0 5).all goodWord = true) w h)
theorem inw1 : ∀ w ∈ u_ws RX1 TX1 5, w ∈ W0 := fun w h => w0_tab w (mem_pl (big := tables_1) [265, 267, 269, 271, 273] (by decide +kernel) w h) (List.all_eq_true.mp (by decide +kernel : (u_ws RX1 TX1 5).all goodWord = true) w h)
theorem inw2 : ∀ w ∈ u_ws RX2 TX2 12, w ∈ W0 := fun w h => w0_tab w (mem_pl (big := tables_1) [205, 207, 209, 211, 213, 215, 217, 219, 221, 223, 225, 227] (by decide +kernel) w h) (List.all_eq_true.mp (by decide +kernel : (u_ws RX2 TX2 12).all goodWord = true) w h)
theorem inw3 : ∀ w ∈ u_ws RX3 TX3 10, w ∈ W0 := fun w h => w0_tab w (mem_pl (big := tables_1) [158, 160, 162, 164, 166, 168, 170, 172, 174, 176] (by decide +kernel) w h) (List.all_eq_true.mp (by decide +kernel : (u_ws RX3 TX3 10).all goodWord = true) w h)
theorem inw4 : ∀ w ∈ u_ws RX4 TX4 6, w ∈ W0 := fun w h => w0_tab w (mem_pl (big := tables_1) [358, 360, 362, 364, 366, 368] (by decide +kernel) w h) (List.all_eq_true.mp (by decide +kernel : (u_ws RX4 TX4 6).all goodWord = true) w h)
theorem inw5 : ∀ w ∈ u_ws RX5 TX5 8, w ∈ W0 := fun w h => w0_tab w (mem_pl (big := tables_1) [295, 297, 299, 301, 303, 305, 307, 309] (by decide +kernel) w h) (List.all_eq_true.mp (by decide +kernel : (u_ws RX5 TX5 8).all goodWord = true) w h)
theorem inw6 : ∀ w ∈ u_ws RX6 TX6 7, w ∈ W0 := fun w h => w0_tab w (mem_pl (big := tables_1) [328, 330, 332, 334, 336, 338, 340] (by decide +kernel) w h) (List.all_eq_true.mp (by decide +kernel : (u_ws RX6 TX6 7).all goodWord = true) w h)
theorem inw7 : ∀ w ∈ u_ws RX7 TX7 2, w ∈ W0 := fun w h => w0_tab w (mem_pl (big := tables_1) [46, 48] (by decide +kernel) w h) (List.all_eq_true.mp (by decide +kernel : (u_ws RX7 TX7 2).all goodWord = true) w h)
theorem inw8 : ∀ w ∈ u_ws RX8 TX8 13, w ∈ W0 := fun w h => w0_tab w (mem_pl (big := tables_1) [120, 122, 124, 126, 128, 130, 132, 134, 136, 138, 140, 142, 144] (by decide +kernel) w h) (List.all_eq_true.mp (by decide +kernel : (u_ws RX8 TX8 13).all goodWord = true) w h)
theorem inw9 : ∀ w ∈ u_ws RX9 TX9 13, w ∈ W0 := fun w h => w0_tab w (mem_pl (big := tables_1) [386, 388, 390, 392, 394, 396, 398, 400, 402, 404, 406, 408, 410] (by decide +kernel) w h) (List.all_eq_true.mp (by decide +kernel : (u_ws RX9 TX9 13).all goodWord = true) w h)
theorem inw10 : ∀ w ∈ u_ws RX10 TX10 68, w ∈ W0 := fun w h => w0_tab w (mem_pl (big := tables_1) [1328, 1330, 1332, 1334, 1336, 1338, 1340, 1342, 1344, 1346, 1348, 1350, 1352, 1354, 1356, 1358, 1360, 1362, 1364, 1366, 1368, 1370, 1372, 1374, 1376, 1378, 1380, 1382, 1384, 1386, 1388, 1390, 1392, 1394, 1396, 1398, 1400, 1402, 1404, 1406, 1408, 1410, 1412, 1414, 1416, 1418, 1420, 1422, 1424, 1426, 1428, 1430, 1432, 1434, 1436, 1438, 1440, 1442, 1444, 1446, 1448, 1450, 1452, 1454, 1456, 1458, 1460, 1462] (by decide +kernel) w h) (List.all_eq_true.mp (by decide +kernel : (u_ws RX10 TX10 68).all goodWord = true) w h)
theorem cl_in : ∀ ci, ci < 11 → ∀ w ∈ u_ws (clC ci) (clT ci) (clN ci), w ∈ W0 := fun ci h => by
  match ci, h with
  | 0, _ => exact inw0
  | 1, _ => exact inw1
  | 2, _ => exact inw2
  | 3, _ => exact inw3
  | 4, _ => exact inw4
  | 5, _ => exact inw5
  | 6, _ => exact inw6
  | 7, _ => exact inw7
  | 8, _ => exact inw8
  | 9, _ => exact inw9
  | 10, _ => exact inw10
theorem cl_ty : ∀ ci, ci < 11 → ∀ k, k < clN ci → parseFieldDescriptor (clT ci k).2.2.1 = some (clTy ci k) := fun ci h => by
  match ci, h with
  | 0, _ => exact tyX0_ok
  | 1, _ => exact tyX1_ok
  | 2, _ => exact tyX2_ok
  | 3, _ => exact tyX3_ok
  | 4, _ => exact tyX4_ok
  | 5, _ => exact tyX5_ok
  | 6, _ => exact tyX6_ok
  | 7, _ => exact tyX7_ok
  | 8, _ => exact tyX8_ok
  | 9, _ => exact tyX9_ok
  | 10, _ => exact tyX10_ok
theorem cl_nm : ∀ ci, ci < 11 → ∀ a, a < clN ci → ∀ b, b < clN ci → a ≠ b → (clT ci a).2.1 ≠ (clT ci b).2.1 := fun ci h => by
  match ci, h with
  | 0, _ => exact nmX0
  | 1, _ => exact nmX1
  | 2, _ => exact nmX2
  | 3, _ => exact nmX3
  | 4, _ => exact nmX4
  | 5, _ => exact nmX5
  | 6, _ => exact nmX6
  | 7, _ => exact nmX7
  | 8, _ => exact nmX8
  | 9, _ => exact nmX9
  | 10, _ => exact nmX10
def FL (own : String) (idx ci k : Nat) : Prop := Cond.fieldLink own idx (clT ci k).1 (clT ci k).2.1 (clT ci k).2.2.1 ∈ W0
theorem fieldsV_get {g : GP} {rI : Nat → Int32} {rL : Nat → Int64} {rR : Nat → Option Nat} {a ci k : Nat} (hk : k < (FT ci).length) : (fieldsV g rI rL rR a ci)[k]? = some (fieldV g rI rL rR a ((FT ci).getD k (0, 0)) k) := by
  unfold fieldsV
  rw [List.getElem?_map, List.getElem?_range hk]
  rfl
theorem fieldsV_len {g : GP} {rI : Nat → Int32} {rL : Nat → Int64} {rR : Nat → Option Nat} {a ci : Nat} : (fieldsV g rI rL rR a ci).length = (FT ci).length := by unfold fieldsV; simp
theorem fieldsV_set {g : GP} {rI rI' : Nat → Int32} {rL rL' : Nat → Int64} {rR rR' : Nat → Option Nat} {a ci k : Nat} {w : Value} (hk : k < (FT ci).length) (hw : w = fieldV g rI' rL' rR' a ((FT ci).getD k (0, 0)) k) (h1 : ∀ j, j ≠ k → rI j = rI' j) (h2 : ∀ j, j ≠ k → rL j = rL' j) (h3 : ∀ j, j ≠ k → rR j = rR' j) : (fieldsV g rI rL rR a ci).set k w = fieldsV g rI' rL' rR' a ci := by
  subst hw
  apply List.ext_getElem?
  intro i
  rw [List.getElem?_set]
  by_cases hi : k = i
  · subst hi
    rw [if_pos rfl, if_pos (by rw [fieldsV_len]; exact hk), fieldsV_get hk]
  · rw [if_neg hi]
    rcases Nat.lt_or_ge i (FT ci).length with q | q
    · rw [fieldsV_get q, fieldsV_get q]
      have hi' : i ≠ k := fun z => hi z.symm
      unfold fieldV
      rw [h1 i hi', h2 i hi', h3 i hi']
    · rw [List.getElem?_eq_none (by rw [fieldsV_len]; exact q), List.getElem?_eq_none (by rw [fieldsV_len]; exact q)]
theorem entry_obj {g : GP} {h : AH} {a ci : Nat} (hl : LAY a = (0, ci)) : entry g h a = .inr (ci, fieldsV g (h.1 a) (h.2.1 a) (h.2.2 a) a ci) := by
  unfold entry entryR
  rw [hl]
  rfl
theorem entry_int {g : GP} {h : AH} {a N : Nat} (hl : LAY a = (1, N)) : entry g h a = .inl (g.2.2.1 0, N, .inl (h.1 a)) := by
  unfold entry entryR
  rw [hl]
  rfl
theorem entry_long {g : GP} {h : AH} {a N : Nat} (hl : LAY a = (2, N)) : entry g h a = .inl (g.2.2.1 1, N, .inr (.inl (h.2.1 a))) := by
  unfold entry entryR
  rw [hl]
  rfl
theorem entry_bool {g : GP} {h : AH} {a N : Nat} (hl : LAY a = (3, N)) : entry g h a = .inl (g.2.2.1 2, N, .inl (h.1 a)) := by
  unfold entry entryR
  rw [hl]
  rfl
theorem entry_ref {g : GP} {h : AH} {a N : Nat} (hl : LAY a = (4, N)) : entry g h a = .inl (g.2.2.1 3, N, .inr (.inr (.inr (.inr (fun i => (h.2.2 a i).map (ad g)))))) := by
  unfold entry entryR
  rw [hl]
  rfl
theorem upd_row {f : Nat → Nat → Int32} {a k : Nat} {v : Int32} : upd (f a) k v = up2 f a k v a := by
  rw [up2_own]
  rfl
theorem updL_row {f : Nat → Nat → Int64} {a k : Nat} {v : Int64} : vp_updL (f a) k v = up2 f a k v a := by
  rw [up2_own]
  rfl
section RH
variable {g : GP} {own : String} {cc : ByteArray} {lev mcR msR : Nat} {ret : Option FieldType} {tb : List ExceptionTableEntry} {X : MX}
variable {n : Nat} {ex : Bool} {nc ns : Nat} {Q : State → Prop} {h : AH} {pc : Nat} {lv st : List Value}
theorem aw_getG (hX : Cx g own cc lev mcR msR ret tb X) {idx ci k a : Nat} {v : Value} (hl : LAY a = (0, ci)) (ha : a < n) (hk : Nat.ble (k + 1) (clN ci) = true) (hci : Nat.ble (ci + 1) 11 = true) (hf : FL own idx ci k) (hv : fieldV g (h.1 a) (h.2.1 a) (h.2.2 a) a ((FT ci).getD k (0, 0)) k = tr g v) (hd : decode cc pc = .ok (.getfield idx, 3))
    (kk : AW g X n ex nc ns Q h (pc + 3) lv (v :: st)) : AW g X n ex nc ns Q h pc lv (.ref a :: st) := fun ls H locs hv2 hW hS => by
  have hci' := Nat.le_of_ble_eq_true hci
  have hk' := Nat.le_of_ble_eq_true hk
  have hin := cl_in ci hci'
  exact va_get hX.1 hX.2.1 (Ts := W0) hX.2.2.2.1 hin hX.2.2.1 hX.2.2.2.2.1 hW.1 a (wsOf_get ha |>.trans (by rw [entry_obj hl])) (cl_ok ci hci') k hk' (hX.2.2.2.1 _ hf) (fun x q => q) (by rw [fieldsV_get (by rw [cl_len ci hci']; exact hk'), hv]) hd (kk ls H locs hv2 hW hS)
theorem aw_getI (hX : Cx g own cc lev mcR msR ret tb X) {idx ci k a z : Nat} (hl : LAY a = (0, ci)) (ha : a < n) (hk : Nat.ble (k + 1) (clN ci) = true) (hci : Nat.ble (ci + 1) 11 = true) (hf : FL own idx ci k) (hq : (FT ci).getD k (0, 0) = (0, z)) (hd : decode cc pc = .ok (.getfield idx, 3))
    (kk : AW g X n ex nc ns Q h (pc + 3) lv (.int (gI h a k) :: st)) : AW g X n ex nc ns Q h pc lv (.ref a :: st) := aw_getG hX hl ha hk hci hf (by rw [hq]; rfl) hd kk
theorem aw_getL (hX : Cx g own cc lev mcR msR ret tb X) {idx ci k a z : Nat} (hl : LAY a = (0, ci)) (ha : a < n) (hk : Nat.ble (k + 1) (clN ci) = true) (hci : Nat.ble (ci + 1) 11 = true) (hf : FL own idx ci k) (hq : (FT ci).getD k (0, 0) = (1, z)) (hd : decode cc pc = .ok (.getfield idx, 3))
    (kk : AW g X n ex nc ns Q h (pc + 3) lv (.long (gL h a k) :: st)) : AW g X n ex nc ns Q h pc lv (.ref a :: st) := aw_getG hX hl ha hk hci hf (by rw [hq]; rfl) hd kk
theorem aw_getR (hX : Cx g own cc lev mcR msR ret tb X) {idx ci k a z : Nat} (hl : LAY a = (0, ci)) (ha : a < n) (hk : Nat.ble (k + 1) (clN ci) = true) (hci : Nat.ble (ci + 1) 11 = true) (hf : FL own idx ci k) (hq : (FT ci).getD k (0, 0) = (2, z)) (hd : decode cc pc = .ok (.getfield idx, 3))
    (kk : AW g X n ex nc ns Q h (pc + 3) lv (rfV (gR h a k) :: st)) : AW g X n ex nc ns Q h pc lv (.ref a :: st) := aw_getG hX hl ha hk hci hf (by rw [hq, tr_rfV]; rfl) hd kk
theorem aw_getF (hX : Cx g own cc lev mcR msR ret tb X) (hF : gF g = true) {idx ci k a z : Nat} (hl : LAY a = (0, ci)) (ha : a < n) (hk : Nat.ble (k + 1) (clN ci) = true) (hci : Nat.ble (ci + 1) 11 = true) (hf : FL own idx ci k) (hq : (FT ci).getD k (0, 0) = (3, z)) (hd : decode cc pc = .ok (.getfield idx, 3))
    (kk : AW g X n ex nc ns Q h (pc + 3) lv (.ref (a + z) :: st)) : AW g X n ex nc ns Q h pc lv (.ref a :: st) := aw_getG hX hl ha hk hci hf (by rw [hq]; unfold fieldV; dsimp only; rw [if_pos hF]; rfl) hd kk
theorem aw_getD (hX : Cx g own cc lev mcR msR ret tb X) (hF : gF g = false) {idx ci k a z : Nat} (hl : LAY a = (0, ci)) (ha : a < n) (hk : Nat.ble (k + 1) (clN ci) = true) (hci : Nat.ble (ci + 1) 11 = true) (hf : FL own idx ci k) (hq : (FT ci).getD k (0, 0) = (3, z)) (hd : decode cc pc = .ok (.getfield idx, 3))
    (kk : AW g X n ex nc ns Q h (pc + 3) lv (rfV (gR h a k) :: st)) : AW g X n ex nc ns Q h pc lv (.ref a :: st) := aw_getG hX hl ha hk hci hf (by rw [hq, tr_rfV]; unfold fieldV; dsimp only; rw [if_neg (by rw [hF]; decide)]; rfl) hd kk
theorem Wo_set {g : GP} {n : Nat} {ex : Bool} {h h' : AH} {a : Nat} {H H1 : Heap} {e : va_E} (hW : Wo g n ex h H) (ha : a < n) (he : e = entry g h' a) (ho : ∀ b, b ≠ a → entry g h b = entry g h' b) (hz : H1.size = H.size) (hP : va_P g.2.1 classes ((wsOf g n h).set a (ad g a, e)) H1) : Wo g n ex h' H1 := by
  rw [wsOf_set ha he ho] at hP
  exact ⟨hP, by rw [hz]; exact hW.2.1, fun z => by rw [hz]; exact hW.2.2 z⟩

/-- a field that isn't final -/
theorem aw_putG (hX : Cx g own cc lev mcR msR ret tb X) {idx ci k a : Nat} {v : Value} {h' : AH} {ty : FieldType} (hl : LAY a = (0, ci)) (ha : a < n) (hn : n ≤ 100000) (hk : Nat.ble (k + 1) (clN ci) = true) (hci : Nat.ble (ci + 1) 11 = true) (hf : FL own idx ci k) (hfin : (clT ci k).2.2.2 = false) (hdt : parseFieldDescriptor (clT ci k).2.2.1 = some ty) (hnar : narrow ty (tr g v) = tr g v) (hfit : fits ty (tr g v) = true)
    (he : .inr (ci, (fieldsV g (h.1 a) (h.2.1 a) (h.2.2 a) a ci).set k (tr g v)) = entry g h' a) (ho : ∀ b, b ≠ a → entry g h b = entry g h' b) (hd : decode cc pc = .ok (.putfield idx, 3))
    (kk : AW g X n ex nc ns Q h' (pc + 3) lv st) : AW g X n ex nc ns Q h pc lv (v :: .ref a :: st) := fun ls H locs hv2 hW hS0 => by
  have hci' := Nat.le_of_ble_eq_true hci
  have hk' := Nat.le_of_ble_eq_true hk
  have hin := cl_in ci hci'
  have hc := cl_ok ci hci'
  have hts := hX.2.2.2.1
  have hK := hX.2.2.2.2.1
  have hD := wsOf_D g n h hn
  have hea : (wsOf g n h)[a]? = some (ad g a, .inr (ci, fieldsV g (h.1 a) (h.2.1 a) (h.2.2 a) a ci)) := (wsOf_get ha).trans (by rw [entry_obj hl])
  have hlen : k < (fieldsV g (h.1 a) (h.2.1 a) (h.2.2 a) a ci).length := by rw [fieldsV_len, cl_len ci hci']; exact hk'
  have hap := va_apart (own := own) hts hin (clTy ci) (cl_ty ci hci') (cl_nm ci hci') hK hc
  obtain ⟨r, h1, cell, q1, q2, q3, q4⟩ := hW.1 a _ hea
  have hr : r = (clC ci, clT ci, clN ci) := Option.some.inj (h1.symm.trans hc)
  subst hr
  obtain ⟨hS, hfc, kC, hkC, hkind⟩ := hK.1 ci _ hc
  obtain ⟨cf, kf, fi, f, hi, hsl⟩ := hS k hk'
  have hlay := hts _ (hin _ (u_in_lay hk'))
  unfold u_lay at hlay
  rw [if_neg (by rw [hfin]; decide)] at hlay
  have hst := (u_facts hfc hkC (u_lays hts hin hk') hi).1
  have h6 := u_store hfc hkC hkind hlay hi hdt hnar hfit
  refine W.putK hX.1 hX.2.1 (f := f) ⟨hX.2.2.1, hts _ hf, ⟨_, _, _, hi⟩, hst⟩ (by rw [q2]; exact h6) q1 q3 (by rw [hsl]; exact k2_hasslot (q4 k hk')) rfl rfl hd fun H' e1 e2 e3 => ?_
  rw [hsl] at e1 ⊢
  exact kk ls H' _ hv2 (Wo_set hW ha he ho e2 (hW.1.set hD hea ⟨_, hc, t_OB.to (V := updV (vp_V (fieldsV g (h.1 a) (h.2.1 a) (h.2.2 a) a ci)) k (tr g v)) ⟨_, e1, q2, q3, t_set q4 hap hk' (tr g v)⟩ (fun j _ => vp_updV_set hlen (tr g v) j)⟩ e3)) (hS0.put e2 e3 (hD.2 a _ hea))
theorem fits_int (x : Int32) : fits .int (.int x) = true := rfl
theorem aw_putI (hX : Cx g own cc lev mcR msR ret tb X) {idx ci k a : Nat} {v : Int32} (hl : LAY a = (0, ci)) (ha : a < n) (hn : n ≤ 100000) (hk : Nat.ble (k + 1) (clN ci) = true) (hci : Nat.ble (ci + 1) 11 = true) (hf : FL own idx ci k) (hfin : (clT ci k).2.2.2 = false) (hdt : parseFieldDescriptor (clT ci k).2.2.1 = some .int) (hq : (FT ci).getD k (0, 0) = (0, 0)) (hd : decode cc pc = .ok (.putfield idx, 3))
    (kk : AW g X n ex nc ns Q (sI h a k v) (pc + 3) lv st) : AW g X n ex nc ns Q h pc lv (.int v :: .ref a :: st) := by
  refine aw_putG hX hl ha hn hk hci hf hfin hdt rfl rfl ?_ (fun b hb => entry_sI hb) hd kk
  rw [entry_obj hl]
  congr 2
  have hci' := Nat.le_of_ble_eq_true hci
  have hk' := Nat.le_of_ble_eq_true hk
  refine fieldsV_set (by rw [cl_len ci hci']; exact hk') ?_ (fun j hj => ?_) (fun j hj => rfl) (fun j hj => rfl)
  · rw [hq]
    show Value.int v = .int (up2 h.1 a k v a k)
    simp [up2]
  · show h.1 a j = up2 h.1 a k v a j
    simp [up2, hj]
theorem aw_putZ (hX : Cx g own cc lev mcR msR ret tb X) {idx ci k a : Nat} {v : Int32} (hz : v = 0 ∨ v = 1) (hl : LAY a = (0, ci)) (ha : a < n) (hn : n ≤ 100000) (hk : Nat.ble (k + 1) (clN ci) = true) (hci : Nat.ble (ci + 1) 11 = true) (hf : FL own idx ci k) (hfin : (clT ci k).2.2.2 = false) (hdt : parseFieldDescriptor (clT ci k).2.2.1 = some .boolean) (hq : (FT ci).getD k (0, 0) = (0, 1)) (hd : decode cc pc = .ok (.putfield idx, 3))
    (kk : AW g X n ex nc ns Q (sI h a k v) (pc + 3) lv st) : AW g X n ex nc ns Q h pc lv (.int v :: .ref a :: st) := by
  refine aw_putG hX hl ha hn hk hci hf hfin hdt ?_ ?_ ?_ (fun b hb => entry_sI hb) hd kk
  · rcases hz with rfl | rfl <;> rfl
  · rcases hz with rfl | rfl <;> rfl
  rw [entry_obj hl]
  congr 2
  have hci' := Nat.le_of_ble_eq_true hci
  have hk' := Nat.le_of_ble_eq_true hk
  refine fieldsV_set (by rw [cl_len ci hci']; exact hk') ?_ (fun j hj => ?_) (fun j hj => rfl) (fun j hj => rfl)
  · rw [hq]
    show Value.int v = .int (up2 h.1 a k v a k)
    simp [up2]
  · show h.1 a j = up2 h.1 a k v a j
    simp [up2, hj]
theorem aw_putL (hX : Cx g own cc lev mcR msR ret tb X) {idx ci k a : Nat} {v : Int64} (hl : LAY a = (0, ci)) (ha : a < n) (hn : n ≤ 100000) (hk : Nat.ble (k + 1) (clN ci) = true) (hci : Nat.ble (ci + 1) 11 = true) (hf : FL own idx ci k) (hfin : (clT ci k).2.2.2 = false) (hdt : parseFieldDescriptor (clT ci k).2.2.1 = some .long) (hq : (FT ci).getD k (0, 0) = (1, 0)) (hd : decode cc pc = .ok (.putfield idx, 3))
    (kk : AW g X n ex nc ns Q (sL h a k v) (pc + 3) lv st) : AW g X n ex nc ns Q h pc lv (.long v :: .ref a :: st) := by
  refine aw_putG hX hl ha hn hk hci hf hfin hdt rfl rfl ?_ (fun b hb => entry_sL hb) hd kk
  rw [entry_obj hl]
  congr 2
  have hci' := Nat.le_of_ble_eq_true hci
  have hk' := Nat.le_of_ble_eq_true hk
  refine fieldsV_set (by rw [cl_len ci hci']; exact hk') ?_ (fun j hj => rfl) (fun j hj => ?_) (fun j hj => rfl)
  · rw [hq]
    show Value.long v = .long (up2 h.2.1 a k v a k)
    simp [up2]
  · show h.2.1 a j = up2 h.2.1 a k v a j
    simp [up2, hj]
theorem aw_putR (hX : Cx g own cc lev mcR msR ret tb X) {idx ci k a : Nat} {o : Option Nat} {cn : String} (hl : LAY a = (0, ci)) (ha : a < n) (hn : n ≤ 100000) (hk : Nat.ble (k + 1) (clN ci) = true) (hci : Nat.ble (ci + 1) 11 = true) (hf : FL own idx ci k) (hfin : (clT ci k).2.2.2 = false) (hdt : parseFieldDescriptor (clT ci k).2.2.1 = some (.object cn)) (hq : (FT ci).getD k (0, 0) = (2, 0)) (hd : decode cc pc = .ok (.putfield idx, 3))
    (kk : AW g X n ex nc ns Q (sR h a k o) (pc + 3) lv st) : AW g X n ex nc ns Q h pc lv (rfV o :: .ref a :: st) := by
  refine aw_putG hX hl ha hn hk hci hf hfin hdt (by cases o <;> rfl) (by cases o <;> rfl) ?_ (fun b hb => entry_sR hb) hd kk
  rw [entry_obj hl]
  congr 2
  have hci' := Nat.le_of_ble_eq_true hci
  have hk' := Nat.le_of_ble_eq_true hk
  refine fieldsV_set (by rw [cl_len ci hci']; exact hk') ?_ (fun j hj => rfl) (fun j hj => rfl) (fun j hj => ?_)
  · rw [hq, tr_rfV]
    show va_rf (o.map (ad g)) = va_rf ((up2 h.2.2 a k o a k).map (ad g))
    simp [up2]
  · show h.2.2 a j = up2 h.2.2 a k o a j
    simp [up2, hj]
/-! arrays -/
theorem aw_alen (hX : Cx g own cc lev mcR msR ret tb X) {a t N : Nat} (hl : LAY a = (t, N)) (ht : t = 1 ∨ t = 2 ∨ t = 3 ∨ t = 4) (ha : a < n) (hd : decode cc pc = .ok (.arraylength, 1)) (kk : AW g X n ex nc ns Q h (pc + 1) lv (.int (Int32.ofNat N) :: st)) : AW g X n ex nc ns Q h pc lv (.ref a :: st) := fun ls H locs hv2 hW hS => by
  rcases ht with rfl | rfl | rfl | rfl
  · have hea : (wsOf g n h)[a]? = some (ad g a, .inl (g.2.2.1 0, N, .inl (h.1 a))) := (wsOf_get ha).trans (by rw [entry_int hl])
    exact va_alen hX.1 hX.2.1 hX.2.2.2.2.1 hW.1 a 0 hea rfl rfl hd (kk ls H locs hv2 hW hS)
  · have hea : (wsOf g n h)[a]? = some (ad g a, .inl (g.2.2.1 1, N, .inr (.inl (h.2.1 a)))) := (wsOf_get ha).trans (by rw [entry_long hl])
    exact va_alen hX.1 hX.2.1 hX.2.2.2.2.1 hW.1 a 1 hea rfl rfl hd (kk ls H locs hv2 hW hS)
  · have hea : (wsOf g n h)[a]? = some (ad g a, .inl (g.2.2.1 2, N, .inl (h.1 a))) := (wsOf_get ha).trans (by rw [entry_bool hl])
    exact va_alen hX.1 hX.2.1 hX.2.2.2.2.1 hW.1 a 2 hea rfl rfl hd (kk ls H locs hv2 hW hS)
  · have hea : (wsOf g n h)[a]? = some (ad g a, .inl (g.2.2.1 3, N, .inr (.inr (.inr (.inr (fun i => (h.2.2 a i).map (ad g))))))) := (wsOf_get ha).trans (by rw [entry_ref hl])
    exact va_alen hX.1 hX.2.1 hX.2.2.2.2.1 hW.1 a 3 hea rfl rfl hd (kk ls H locs hv2 hW hS)
theorem aw_iaload (hX : Cx g own cc lev mcR msR ret tb X) {a N : Nat} {i : Int32} (hl : LAY a = (1, N)) (ha : a < n) (hi : vp_in i N) (hd : decode cc pc = .ok (.iaload, 1)) (kk : AW g X n ex nc ns Q h (pc + 1) lv (.int (gI h a i.toNatClampNeg) :: st)) : AW g X n ex nc ns Q h pc lv (.int i :: .ref a :: st) := fun ls H locs hv2 hW hS =>
  va_iald (f := h.1 a) hX.1 hX.2.1 hX.2.2.2.2.1 hW.1 a 0 ((wsOf_get ha).trans (by rw [entry_int hl])) rfl hi hd (kk ls H locs hv2 hW hS)
theorem aw_baload (hX : Cx g own cc lev mcR msR ret tb X) {a N : Nat} {i : Int32} (hl : LAY a = (3, N)) (ha : a < n) (hi : vp_in i N) (hd : decode cc pc = .ok (.baload, 1)) (kk : AW g X n ex nc ns Q h (pc + 1) lv (.int (gI h a i.toNatClampNeg) :: st)) : AW g X n ex nc ns Q h pc lv (.int i :: .ref a :: st) := fun ls H locs hv2 hW hS =>
  va_zald (f := h.1 a) hX.1 hX.2.1 hX.2.2.2.2.1 hW.1 a 2 ((wsOf_get ha).trans (by rw [entry_bool hl])) rfl hi hd (kk ls H locs hv2 hW hS)
theorem aw_laload (hX : Cx g own cc lev mcR msR ret tb X) {a N : Nat} {i : Int32} (hl : LAY a = (2, N)) (ha : a < n) (hi : vp_in i N) (hd : decode cc pc = .ok (.laload, 1)) (kk : AW g X n ex nc ns Q h (pc + 1) lv (.long (gL h a i.toNatClampNeg) :: st)) : AW g X n ex nc ns Q h pc lv (.int i :: .ref a :: st) := fun ls H locs hv2 hW hS =>
  va_lald (f := h.2.1 a) hX.1 hX.2.1 hX.2.2.2.2.1 hW.1 a 1 ((wsOf_get ha).trans (by rw [entry_long hl])) rfl hi hd (kk ls H locs hv2 hW hS)
theorem aw_aaload (hX : Cx g own cc lev mcR msR ret tb X) {a N : Nat} {i : Int32} (hl : LAY a = (4, N)) (ha : a < n) (hi : vp_in i N) (hd : decode cc pc = .ok (.aaload, 1)) (kk : AW g X n ex nc ns Q h (pc + 1) lv (rfV (gR h a i.toNatClampNeg) :: st)) : AW g X n ex nc ns Q h pc lv (.int i :: .ref a :: st) := fun ls H locs hv2 hW hS =>
  va_aldq (f := fun i => (h.2.2 a i).map (ad g)) hX.1 hX.2.1 hX.2.2.2.2.1 hW.1 a 3 ((wsOf_get ha).trans (by rw [entry_ref hl])) rfl hi hd (by
    have k := kk ls H locs hv2 hW hS
    rw [List.map_cons, tr_rfV] at k
    exact k)
theorem aw_iastore (hX : Cx g own cc lev mcR msR ret tb X) {a N : Nat} {i x : Int32} (hl : LAY a = (1, N)) (ha : a < n) (hn : n ≤ 100000) (hi : vp_in i N) (hd : decode cc pc = .ok (.iastore, 1)) (kk : AW g X n ex nc ns Q (sI h a i.toNatClampNeg x) (pc + 1) lv st) : AW g X n ex nc ns Q h pc lv (.int x :: .int i :: .ref a :: st) := fun ls H locs hv2 hW hS => by
  have hD := wsOf_D g n h hn
  have hea : (wsOf g n h)[a]? = some (ad g a, .inl (g.2.2.1 0, N, .inl (h.1 a))) := (wsOf_get ha).trans (by rw [entry_int hl])
  refine W.iast hX.1 hX.2.1 (hW.1 a _ hea) ((hX.2.2.2.2.1.2 0 _ rfl).1 N (fun j => .int (h.1 a j))) (fun q => by cases q) (by show ¬ (i < 0 ∨ (arrV _ _ _).slots.size ≤ _); rw [arrV_size]; exact hi) rfl rfl hd fun H1 e z oq => ?_
  refine kk ls H1 _ hv2 (Wo_set (e := .inl (g.2.2.1 0, N, .inl (upd (h.1 a) i.toNatClampNeg x))) hW ha ?_ (fun b hb => entry_sI hb) z (hW.1.set hD hea ?_ oq)) (hS.put z oq (hD.2 a _ hea))
  · rw [entry_int hl]
    rw [upd_row]
    rfl
  · show H1[ad g a]? = some (vp_cell _ _)
    rw [e]
    rw [vp_cell_i, vp_cell_i, arrV_store]
    congr 2
    funext q
    by_cases hq : q = i.toNatClampNeg
    · subst hq
      simp [updV, upd]
    · simp [updV, upd, hq]
theorem aw_lastore (hX : Cx g own cc lev mcR msR ret tb X) {a N : Nat} {i : Int32} {x : Int64} (hl : LAY a = (2, N)) (ha : a < n) (hn : n ≤ 100000) (hi : vp_in i N) (hd : decode cc pc = .ok (.lastore, 1)) (kk : AW g X n false nc ns Q (sL h a i.toNatClampNeg x) (pc + 1) lv st) : AW g X n false nc ns Q h pc lv (.long x :: .int i :: .ref a :: st) := fun ls H locs hv2 hW hS =>
  va_last hX.1 hX.2.1 hX.2.2.2.2.1 hW.1 (wsOf_D g n h hn) hS a 1 ((wsOf_get ha).trans (by rw [entry_long hl])) rfl hi hd (fun H1 locs1 hP1 _ hS1 => by
    rw [wsOf_set (h' := sL h a i.toNatClampNeg x) ha (by rw [entry_long hl, updL_row]; rfl) (fun b hb => entry_sL hb)] at hP1
    exact kk ls H1 locs1 hv2 ⟨hP1, Nat.le_trans hX.2.2.2.2.2.2.1 hS1.1, fun z => by cases z⟩ hS1)
theorem aw_bastore (hX : Cx g own cc lev mcR msR ret tb X) {a N : Nat} {i x : Int32} (hz : x = 0 ∨ x = 1) (hl : LAY a = (3, N)) (ha : a < n) (hn : n ≤ 100000) (hi : vp_in i N) (hd : decode cc pc = .ok (.bastore, 1)) (kk : AW g X n false nc ns Q (sI h a i.toNatClampNeg x) (pc + 1) lv st) : AW g X n false nc ns Q h pc lv (.int x :: .int i :: .ref a :: st) := fun ls H locs hv2 hW hS =>
  va_zast hX.1 hX.2.1 hX.2.2.2.2.1 hW.1 (wsOf_D g n h hn) hS a 2 ((wsOf_get ha).trans (by rw [entry_bool hl])) rfl hi hd (fun H1 locs1 hP1 _ hS1 => by
    have ez : vp_nar .boolean x = x := by rcases hz with rfl | rfl <;> rfl
    rw [ez, wsOf_set (h' := sI h a i.toNatClampNeg x) ha (by rw [entry_bool hl, upd_row]; rfl) (fun b hb => entry_sI hb)] at hP1
    exact kk ls H1 locs1 hv2 ⟨hP1, Nat.le_trans hX.2.2.2.2.2.2.1 hS1.1, fun z => by cases z⟩ hS1)
end RH
