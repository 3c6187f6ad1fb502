theorem am_ws0 : u_ws RX0 TX0 11 = ([419, 421, 423, 425, 427, 429, 431, 433, 435, 437, 439] : List Nat).filterMap (fun i => lw_tbl[i]?) := by decide +kernel
theorem am_ws1 : u_ws RX1 TX1 11 = ([327, 329, 331, 333, 335, 337, 339, 341, 343, 345, 347] : List Nat).filterMap (fun i => lw_tbl[i]?) := by decide +kernel
theorem am_ws2 : u_ws RX2 TX2 7 = ([382, 384, 386, 388, 390, 392, 394] : List Nat).filterMap (fun i => lw_tbl[i]?) := by decide +kernel
theorem am_ws3 : u_ws RX3 TX3 8 = ([153, 155, 157, 159, 161, 163, 165, 167] : List Nat).filterMap (fun i => lw_tbl[i]?) := by decide +kernel
theorem am_ws4 : u_ws RX4 TX4 7 = ([205, 207, 209, 211, 213, 201, 203] : List Nat).filterMap (fun i => lw_tbl[i]?) := by decide +kernel
theorem am_ws5 : u_ws RX5 TX5 4 = ([358, 360, 362, 364] : List Nat).filterMap (fun i => lw_tbl[i]?) := by decide +kernel
theorem am_ws6 : u_ws RX6 TX6 8 = ([231, 232, 233, 234, 235, 225, 227, 229] : List Nat).filterMap (fun i => lw_tbl[i]?) := by decide +kernel
theorem am_ws7 : u_ws RX8 TX8 2 = ([132, 134] : List Nat).filterMap (fun i => lw_tbl[i]?) := by decide +kernel
theorem am_ws8 : u_ws RX9 TX9 6 = ([252, 254, 256, 258, 260, 262] : List Nat).filterMap (fun i => lw_tbl[i]?) := by decide +kernel
theorem am_ws9 : u_ws RX10 TX10 8 = ([283, 284, 285, 286, 287, 277, 279, 281] : List Nat).filterMap (fun i => lw_tbl[i]?) := by decide +kernel
theorem am_ws10 : u_ws RX11 TX11 14 = ([457, 459, 461, 463, 465, 467, 469, 471, 473, 475, 477, 479, 481, 483] : List Nat).filterMap (fun i => lw_tbl[i]?) := by decide +kernel
theorem am_ws11 : u_ws RX12 TX12 63 = ([1255, 1257, 1259, 1261, 1263, 1265, 1267, 1269, 1271, 1273, 1275, 1277, 1279, 1281, 1283, 1285, 1287, 1289, 1291, 1293, 1295, 1297, 1299, 1301, 1303, 1305, 1307, 1309, 1311, 1313, 1315, 1317, 1319, 1321, 1323, 1325, 1327, 1329, 1331, 1333, 1335, 1337, 1339, 1341, 1343, 1345, 1347, 1349, 1351, 1353, 1355, 1357, 1359, 1361, 1363, 1365, 1367, 1369, 1371, 1373, 1375, 1377, 1379] : List Nat).filterMap (fun i => lw_tbl[i]?) := by decide +kernel
theorem am_ws_in {C : String} {T : u_T} {N : Nat} {ps : List Nat} (h : u_ws C T N = ps.filterMap (fun i => lw_tbl[i]?)) : ∀ w ∈ u_ws C T N, w ∈ lw_tbl := by
  intro w hw
  rw [h] at hw
  obtain ⟨i, -, hi⟩ := List.mem_filterMap.mp hw
  exact List.mem_of_getElem? hi
theorem am_ws_ok {C : String} {T : u_T} {N : Nat} : ∀ w ∈ u_ws C T N, am_okw w = true := by
  intro w hw
  obtain ⟨k, -, rfl⟩ := List.mem_map.mp hw
  unfold u_lay
  split <;> rfl
/-- what is known of a class -/
theorem am_cls {ci : Nat} {C : String} {T : u_T} {N : Nat} (h : vwCl[ci]? = some (C, T, N)) : ∃ ty0 : Nat → FieldType, (∀ k, k < N → parseFieldDescriptor (T k).2.2.1 = some (ty0 k)) ∧ (∀ a, a < N → ∀ b, b < N → a ≠ b → (T a).2.1 ≠ (T b).2.1) ∧ ∀ w ∈ u_ws C T N, w ∈ lw_tbl := by
  match ci, h with
  | 0, h => cases h; exact ⟨tyX0, tyX0_ok, nmX0, am_ws_in am_ws0⟩
  | 1, h => cases h; exact ⟨tyX1, tyX1_ok, nmX1, am_ws_in am_ws1⟩
  | 2, h => cases h; exact ⟨tyX2, tyX2_ok, nmX2, am_ws_in am_ws2⟩
  | 3, h => cases h; exact ⟨tyX3, tyX3_ok, nmX3, am_ws_in am_ws3⟩
  | 4, h => cases h; exact ⟨tyX4, tyX4_ok, nmX4, am_ws_in am_ws4⟩
  | 5, h => cases h; exact ⟨tyX5, tyX5_ok, nmX5, am_ws_in am_ws5⟩
  | 6, h => cases h; exact ⟨tyX6, tyX6_ok, nmX6, am_ws_in am_ws6⟩
  | 7, h => cases h; exact ⟨tyX8, tyX8_ok, nmX8, am_ws_in am_ws7⟩
  | 8, h => cases h; exact ⟨tyX9, tyX9_ok, nmX9, am_ws_in am_ws8⟩
  | 9, h => cases h; exact ⟨tyX10, tyX10_ok, nmX10, am_ws_in am_ws9⟩
  | 10, h => cases h; exact ⟨tyX11, tyX11_ok, nmX11, am_ws_in am_ws10⟩
  | 11, h => cases h; exact ⟨tyX12, tyX12_ok, nmX12, am_ws_in am_ws11⟩
  | n + 12, h => simp [vwCl] at h
theorem am_hts {s : State} (hTW : am_TW s) {ci : Nat} {C : String} {T : u_T} {N : Nat} (h : vwCl[ci]? = some (C, T, N)) (args : Array Value) : ∀ w ∈ u_ws C T N, w.before args s = true := fun w hw => hTW w ((am_cls h).choose_spec.2.2 w hw) (am_ws_ok w hw) args
/-- cells of a world that has changed in one place -/
theorem am_cw_set {cA : Nat → ClassId} {ad : Nat → Nat} {hp h2 : am_H} {k : Nat} {z z2 : am_S} {x : va_E} (hz : am_at hp.1 k = some z) (hs : ∀ i, h2.1[i]? = if i = k then some z2 else hp.1[i]?) (ho : ∀ (i : Nat) (y : am_S), i ≠ k → am_cell cA ad h2.2.1 h2.2.2 i y = am_cell cA ad hp.2.1 hp.2.2 i y) (hx : am_cell cA ad h2.2.1 h2.2.2 k z2 = x) : (am_cw cA ad hp).set k (ad k, x) = am_cw cA ad h2 := by
  have hk : k < hp.1.length := by
    rw [am_at_eq] at hz
    exact (List.getElem?_eq_some_iff.mp hz).1
  apply List.ext_getElem?
  intro i
  rw [List.getElem?_set]
  simp only [am_cw, List.getElem?_mapIdx, List.length_mapIdx]
  by_cases e : k = i
  · subst e
    simp [hk, hs, hx]
  · have e2 : ¬ i = k := fun q => e q.symm
    rw [if_neg e, hs i, if_neg e2]
    cases hp.1[i]? with
    | none => rfl
    | some y => simp [ho i y e2]
theorem am_cell_lt {cA : Nat → ClassId} {ad : Nat → Nat} {v : am_V} {w : am_X} {k kd n : Nat} {q : List (Option Nat)} (h : kd < 100) : am_cell cA ad v w k (kd, n, q) = .inr (kd, am_fs ad v k kd q) := if_pos h
theorem am_bne {a b : Nat} (h : ¬ a = b) : Nat.beq a b = false := by
  cases hh : Nat.beq a b with
  | false => rfl
  | true => exact absurd (Nat.eq_of_beq_eq_true hh) h
theorem am_beq (a : Nat) : Nat.beq a a = true := Nat.beq_refl a
theorem am_up_eq (v : am_V) (k j : Nat) (x : Int32) (a b : Nat) : am_up v k j x a b = if a = k ∧ b = j then x else v a b := by
  unfold am_up
  by_cases e : a = k
  · subst e
    by_cases f : b = j
    · subst f
      simp [am_beq]
    · simp [am_beq, am_bne f, f]
  · simp [am_bne e, e]
theorem am_upX_eq (v : am_X) (k j : Nat) (x : Int64) (a b : Nat) : am_upX v k j x a b = if a = k ∧ b = j then x else v a b := by
  unfold am_upX
  by_cases e : a = k
  · subst e
    by_cases f : b = j
    · subst f
      simp [am_beq]
    · simp [am_beq, am_bne f, f]
  · simp [am_bne e, e]
theorem am_up_same (v : am_V) (k j : Nat) (x : Int32) : am_up v k j x k = upd (v k) j x := by
  funext b
  rw [am_up_eq]
  unfold upd
  by_cases e : b = j
  · simp [e]
  · simp [e]
theorem am_up_ne (v : am_V) {k i : Nat} (j : Nat) (x : Int32) (h : i ≠ k) : am_up v k j x i = v i := by
  funext b
  rw [am_up_eq]
  simp [h]
theorem am_upX_same (v : am_X) (k j : Nat) (x : Int64) : am_upX v k j x k = vp_updL (v k) j x := by
  funext b
  rw [am_upX_eq]
  unfold vp_updL
  by_cases e : b = j
  · simp [e]
  · simp [e]
theorem am_upX_ne (v : am_X) {k i : Nat} (j : Nat) (x : Int64) (h : i ≠ k) : am_upX v k j x i = v i := by
  funext b
  rw [am_upX_eq]
  simp [h]
theorem am_cell_v {cA : Nat → ClassId} {ad : Nat → Nat} {v v2 : am_V} {w w2 : am_X} {k : Nat} (y : am_S) (hv : v2 k = v k) (hw : w2 k = w k) : am_cell cA ad v2 w2 k y = am_cell cA ad v w k y := by
  unfold am_cell am_fs am_fv
  rw [hv, hw]
theorem am_fs_set {ad : Nat → Nat} {v : am_V} {k ci j : Nat} {q : List (Option Nat)} {x : Int32} (hR : am_isR ci j = false) : am_fs ad (am_up v k j x) k ci q = (am_fs ad v k ci q).set j (.int x) := by
  apply List.ext_getElem?
  intro i
  rw [List.getElem?_set]
  simp only [am_fs, List.getElem?_map, List.length_map, List.length_range]
  by_cases e : j = i
  · subst e
    by_cases hj : j < am_nf ci
    · simp [hj, am_fv, hR, am_up_eq]
    · simp [hj]
  · rw [if_neg e]
    by_cases hi : i < am_nf ci
    · have e2 : ¬ i = j := fun q => e q.symm
      simp [hi, am_fv, am_up_eq, e2]
    · simp [hi]
theorem am_setR_at : ∀ (q : List (Option Nat)) (j : Nat) (x : Option Nat) (i : Nat), (am_setR q j x).getD i none = if i = j ∧ j < q.length then x else q.getD i none
  | [], j, x, i => by simp [am_setR]
  | a :: q, 0, x, i => by cases i <;> simp [am_setR]
  | a :: q, j + 1, x, i => by
    cases i with
    | zero => simp [am_setR]
    | succ i =>
      have := am_setR_at q j x i
      simp only [am_setR, List.getD_cons_succ, this, List.length_cons]
      by_cases e : i = j ∧ j < q.length
      · rw [if_pos e, if_pos ⟨by omega, by omega⟩]
      · rw [if_neg e, if_neg (fun h => e ⟨by omega, by omega⟩)]
theorem am_setS_at : ∀ (l : List am_S) (k : Nat) (z : am_S) (i : Nat), k < l.length → (am_setS l k z)[i]? = if i = k then some z else l[i]?
  | [], k, z, i, h => by simp at h
  | a :: l, 0, z, i, h => by cases i <;> simp [am_setS]
  | a :: l, k + 1, z, i, h => by
    cases i with
    | zero => simp [am_setS]
    | succ i =>
      have := am_setS_at l k z i (by simpa using h)
      simp only [am_setS, List.getElem?_cons_succ, this]
      by_cases e : i = k
      · simp [e]
      · simp [e]
theorem am_fs_setR {ad : Nat → Nat} {v : am_V} {k ci j a : Nat} {q : List (Option Nat)} (hR : am_isR ci j = true) (hj : j < q.length) : am_fs ad v k ci (am_setR q j (some a)) = (am_fs ad v k ci q).set j (.ref (ad a)) := by
  apply List.ext_getElem?
  intro i
  rw [List.getElem?_set]
  simp only [am_fs, List.getElem?_map, List.length_map, List.length_range]
  by_cases e : j = i
  · subst e
    by_cases hj2 : j < am_nf ci
    · rw [if_pos rfl, if_pos hj2, List.getElem?_range hj2]
      show some (am_fv ad v k ci (am_setR q j (some a)) j) = some (Value.ref (ad a))
      unfold am_fv
      rw [hR, am_setR_at, if_pos ⟨rfl, hj⟩]
      rfl
    · simp [hj2]
  · rw [if_neg e]
    by_cases hi : i < am_nf ci
    · have e2 : ¬ (i = j ∧ j < q.length) := fun q => e q.1.symm
      rw [List.getElem?_range hi]
      show some (am_fv ad v k ci (am_setR q j (some a)) i) = some (am_fv ad v k ci q i)
      unfold am_fv
      rw [am_setR_at, if_neg e2]
    · simp [hi]
theorem am_mem_in {k : Nat} : ∀ {l : List Nat}, am_mem k l = true → k ∈ l
  | [], h => by simp [am_mem] at h
  | a :: l, h => by
    unfold am_mem at h
    split at h
    · rename_i e
      rw [Nat.eq_of_beq_eq_true e]
      exact List.mem_cons_self
    · exact List.mem_cons_of_mem _ (am_mem_in h)

