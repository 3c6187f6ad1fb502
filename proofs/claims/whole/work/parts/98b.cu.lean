/-! ===== the constants at the law's start ===== -/
theorem st_len {args : Array Value} {s : State} {t : Term} {a N : Nat} {cell : Cell} (hN : N < 2 ^ 31) (h : (Term.length t).eval args s none [] s = some (.int (Int32.ofNat N))) (ht : t.eval args s none [] s = some (.ref a)) (hc : s.heap[a]? = some cell) : cell.slots.size = N := by
  have h2 : ∀ v : Value, (Term.length t).eval args s none [] s = some v → cell.slots.size < 2147483648 ∧ v = .int cell.slots.size.toInt32 := by
    intro v hv
    simp only [Term.eval, Option.bind_eq_bind] at hv
    simp [ht] at hv
    obtain ⟨q, hq, hv⟩ := Option.bind_eq_some_iff.mp hv
    have e := (State.arrayAt?_spec hq).1
    cases hc.symm.trans e
    by_cases hn : cell.slots.size < 2147483648
    · rw [if_pos hn] at hv
      cases hv
      exact ⟨hn, rfl⟩
    · rw [if_neg hn] at hv
      cases hv
  obtain ⟨h3, h4⟩ := h2 _ h
  have h5 : Int32.ofNat N = Int32.ofNat cell.slots.size := Value.int.inj h4
  have h6 := congrArg Int32.toNatClampNeg h5
  rw [Int32.toNatClampNeg_ofNat_of_lt hN, Int32.toNatClampNeg_ofNat_of_lt (by omega)] at h6
  exact h6.symm
def st_wt : List Int32 := [1, 3, 9, 27, 81, 243, 729, 2187, 6561]
abbrev st_W : Term := .static "TwoKings$Lane" "WEIGHT" "[I"
set_option maxRecDepth 100000 in
set_option maxHeartbeats 4000000 in
theorem st_w1 : ∀ j, j < 9 → Jvm.Cond.eq (.elem st_W (.int (Int32.ofNat j))) (.int (st_wt.getD j 0)) ∈ st_F := by decide +kernel
set_option maxRecDepth 100000 in
set_option maxHeartbeats 4000000 in
theorem st_w2 : Jvm.Cond.arrayOf st_W .int ∈ st_F := by decide +kernel
set_option maxRecDepth 100000 in
set_option maxHeartbeats 4000000 in
theorem st_w3 : Jvm.Cond.eq (.length st_W) (.int (Int32.ofNat 9)) ∈ st_F := by decide +kernel
set_option maxRecDepth 100000 in
set_option maxHeartbeats 4000000 in
theorem st_w4 : Jvm.Cond.eq (.static "java/lang/String" "COMPACT_STRINGS" "Z") (.int 1) ∈ st_F := by decide +kernel
theorem st_ad0 {s : State} {b t : Nat} : st_ad s b t 1000 = b := by
  unfold st_ad
  rw [if_pos rfl]
theorem st_ad1 {s : State} {b t : Nat} : st_ad s b t 1001 = t := by
  unfold st_ad
  rw [if_neg (by decide), if_pos rfl]
theorem st_ad2 {s : State} {b t i : Nat} {o : String} {j : Nat} {tx : String} {a : Nat} (hi : lw_tbl[i]? = some (.stringRef o j tx)) (h : (Term.string o j).eval #[] s none [] s = some (.ref a)) : st_ad s b t (2000 + i) = a := by
  unfold st_ad
  rw [if_neg (by omega), if_neg (by omega), Nat.add_sub_cancel_left]
  simp only [hi, h]
section M98
variable {s : State} {b L : Nat} {xs : Nat → Int32}
theorem st_str (hF : ∀ w ∈ st_F, w.before #[Value.ref b] s = true) {i : Nat} {o : String} {j : Nat} {tx : String} (hi : lw_tbl[i]? = some (.stringRef o j tx)) : ∃ a : Nat, (Term.string o j).eval #[Value.ref b] s none [] s = some (.ref a) ∧ ∀ t, st_ad s b t (2000 + i) = a := by
  have h : st_ok (.stringRef o j tx) = true := List.all_eq_true.mp st_ok_t _ (List.mem_of_getElem? hi)
  have h1 : Jvm.Cond.exactly (.string o j) "java/lang/String" ∈ st_F := of_decide_eq_true h
  obtain ⟨a, c, cA, kA, q1, -⟩ := Cond.exactly_spec (args := #[Value.ref b]) (first := s) (o := none) (s := s) (idx := []) (t := .string o j) (cls := "java/lang/String") (hF _ h1)
  exact ⟨a, q1, fun t => st_ad2 hi q1⟩
theorem st_S1 (hF : ∀ w ∈ st_F, w.before #[Value.ref b] s = true) (t : Nat) {k : Nat} {tx : List Int32} (hm : (k, tx) ∈ am_TX) : ∃ bb : Nat, am_S1 (st_ad s b t k) bb tx (fun a => s.heap.size ≤ a) s s.heap := by
  have h := st_ok2_t _ hm
  have hk := js_TX _ hm
  obtain ⟨k1, -⟩ := (Bool.and_eq_true _ _).mp hk
  obtain ⟨-, hlen⟩ := of_decide_eq_true k1
  have hlen : tx.length < 1000 := hlen
  unfold st_ok2 at h
  obtain ⟨h1, h⟩ := (Bool.and_eq_true _ _).mp h
  have h1 : 2000 ≤ k := Nat.le_of_ble_eq_true h1
  dsimp only at h
  split at h
  · rename_i o j tz hi
    obtain ⟨h2, h⟩ := (Bool.and_eq_true _ _).mp h
    obtain ⟨h3, h⟩ := (Bool.and_eq_true _ _).mp h
    obtain ⟨h4, h5⟩ := (Bool.and_eq_true _ _).mp h
    have h6 : Jvm.Cond.exactly (.string o j) "java/lang/String" ∈ st_F := of_decide_eq_true (show st_ok (.stringRef o j tz) = true from List.all_eq_true.mp st_ok_t _ (List.mem_of_getElem? hi))
    obtain ⟨a, q1, q2⟩ := st_str hF hi
    have e := q2 t
    rw [Nat.add_sub_cancel' h1] at e
    rw [e]
    have hA : ∀ q : Nat, q < s.heap.size → ¬ s.heap.size ≤ q := fun q hq => Nat.not_le.mpr hq
    have hel : ∀ n : Nat, n < tx.length → (Term.elem (.field (.string o j) "java/lang/String" "value" "[B") (.int (Int32.ofNat n))).eval #[Value.ref b] s none [] s = some (.int (tx.getD n 0)) := fun n hn => va_eqt (hF _ (of_decide_eq_true (List.all_eq_true.mp h5 n (List.mem_range.mpr hn))))
    obtain ⟨v, hv, hT⟩ := va_Tof (A := fun a => s.heap.size ≤ a) (f := fun n => .int (tx.getD n 0)) (by omega) (hF _ (of_decide_eq_true h3)) (va_eqt (hF _ (of_decide_eq_true h4))) hel hA
    exact ⟨v, va_Oof (hF _ h6) q1 hA, vk_OFof q1 (va_eqt (hF _ (of_decide_eq_true h2))) hA, vk_OFof q1 hv hA, hT⟩
  · cases h
theorem st_CU (hts : ∀ w ∈ lw_tbl, w.before #[Value.ref b] s = true) (hF : ∀ w ∈ st_F, w.before #[Value.ref b] s = true) (hX : va_X b L xs s s.heap) (hbl : b < s.heap.size) : ∃ t : Nat, am_CU (am_kc L xs) (st_ad s b t) s.heap.size s s.heap := by
  have hA : ∀ q : Nat, q < s.heap.size → ¬ s.heap.size ≤ q := fun q hq => Nat.not_le.mpr hq
  have hlen := va_eqt (hF _ st_w3)
  obtain ⟨t, ht, hT⟩ := va_Tof (A := fun a => s.heap.size ≤ a) (f := fun n => .int (st_wt.getD n 0)) (N := 9) (by decide) (hF _ st_w2) hlen (fun j hj => va_eqt (hF _ (st_w1 j hj))) hA
  obtain ⟨cell, c1, c2, c3, c4, c5, c6, c7⟩ := hT
  have hsz := st_len (by decide) hlen ht c1
  have hWX : ∀ f : Nat → Int32, (∀ j, j < 9 → f j = st_wt.getD j 0) → va_X t 9 f s s.heap := fun f hf => ⟨cell, c1, c2, c3, hsz, fun j hj => by rw [hf j hj]; exact c6 j hj⟩
  refine ⟨t, fun k n f hk => ?_, ?_, fun i o j tx hi => ?_, ?_, fun k tx hm => st_S1 hF t hm⟩
  · unfold am_kc at hk
    split at hk
    · rename_i e
      have e := Nat.eq_of_beq_eq_true e
      cases hk
      subst e
      rw [st_ad0]
      exact ⟨Nat.le_refl _, hX, hbl⟩
    · split at hk
      · rename_i e
        have e := Nat.eq_of_beq_eq_true e
        cases hk
        subst e
        rw [st_ad1]
        exact ⟨by omega, hWX _ (by decide), Nat.not_le.mp c7⟩
      · cases hk
  · rw [st_ad1]
    exact va_Zof (hts _ (List.mem_of_getElem? (i := 1029) (by decide +kernel))) (hts _ (List.mem_of_getElem? (i := 102) (by decide +kernel))) ht hA
  · obtain ⟨a, q1, q2⟩ := st_str hF hi
    have e : st_ad s b t (am_str i) = a := q2 t
    rw [e]
    exact vk_R.of (hts _ (List.mem_of_getElem? hi)) q1
  · exact va_Zof (hts _ (List.mem_of_getElem? (i := 557) (by decide +kernel))) (hts _ (List.mem_of_getElem? (i := 105) (by decide +kernel))) (va_eqi (hF _ st_w4)) hA
end M98
