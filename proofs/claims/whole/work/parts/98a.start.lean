/-! ===== the law's start: what the statement gives ===== -/
def st_F : List Jvm.Cond := flatC (Jvm.Cond.and given_1 narrow_1)
theorem st_TW {s : State} {b : Nat} (hts : ∀ w ∈ lw_tbl, w.before #[Value.ref b] s = true) : am_TW s := by
  intro w hw hok a
  have h0 := hts w hw
  rcases (Bool.or_eq_true _ _).mp hok with hg | hg
  · exact word_at (State.WarmedH.refl s) (good_of_word hg) h0
  · cases w <;> first | exact absurd (show false = true from hg) (by decide) | skip
    case arrayOver ty =>
      cases ty <;> first | exact absurd (show false = true from hg) (by decide) | skip
      exact am_over_moved (u := s) (U := s) (Vm.Alike.refl s.vm) h0
    case fieldLinkNest => exact va_Nw.use rfl (va_Nw.of rfl h0)
    case methodLinkNest => exact va_Nw.use rfl (va_Nw.of rfl h0)
    case declares => exact va_Nw.use rfl (va_Nw.of rfl h0)
def st_ix : List Nat := [398, 296, 368, 139, 171, 290, 217, 123, 238, 266, 115, 1187]
def st_inst (c : Nat) : Bool := match vwCl[c]?, st_ix[c]? with
  | some q, some i => decide (lw_tbl[i]? = some (.instantiable q.1 q.2.2))
  | none, none => true
  | _, _ => false
set_option maxRecDepth 100000 in
set_option maxHeartbeats 4000000 in
theorem st_inst_t : ∀ c, c < 12 → st_inst c = true := by decide +kernel
set_option maxRecDepth 100000 in
set_option maxHeartbeats 4000000 in
theorem st_K {s : State} (hTW : am_TW s) : ∃ (D : va_G) (cA : Nat → ClassId), va_K D vwCl (am_tys cA) s := by
  have h1 : ∀ c : Nat, ∃ y : ClassId × (Nat → Nat), ∀ q, vwCl[c]? = some q → u_Kn s q.1 q.2.1 q.2.2 y.1 y.2 := by
    intro c
    rcases Nat.lt_or_ge c 12 with hc | hc
    · have hi := st_inst_t c hc
      unfold st_inst at hi
      split at hi
      · rename_i q i hq hix
        obtain ⟨C, T, N⟩ := q
        obtain ⟨cC, iS, hk⟩ := u_known (ws := u_ws C T N) (C := C) (T := T) (N := N) (am_hts hTW hq #[]) (fun _ h => h) (hTW.at (of_decide_eq_true hi) rfl #[])
        refine ⟨(cC, iS), fun q2 hq2 => ?_⟩
        rw [hq] at hq2
        cases hq2
        exact hk
      · rename_i hn _
        exact ⟨(0, fun _ => 0), fun q hq => absurd (hn.symm.trans hq) (by simp)⟩
      · cases hi
    · exact ⟨(0, fun _ => 0), fun q hq => absurd (List.getElem?_eq_some_iff.mp hq).1 (Nat.not_lt.mpr hc)⟩
  obtain ⟨f, hf⟩ := Classical.axiomOfChoice h1
  have h2 : ∀ (ty : FieldType) (i : Nat), lw_tbl[i]? = some (.arrayClass ty) → ∃ cA : ClassId, ArrOfT s cA ty ∧ s.vm.findClass ("[" ++ ty.toString) = some cA := by
    intro ty i hi
    obtain ⟨cA, kA, comp, g1, g2, g3⟩ := Cond.arrayClass_spec (hTW.at hi rfl #[])
    exact ⟨cA, fun n z => ⟨fun k h => (by cases h), kA, g2, comp, g3⟩, g1⟩
  obtain ⟨c0, a0, b0⟩ := h2 .int 137 (by decide +kernel)
  obtain ⟨c1, a1, b1⟩ := h2 .boolean 1382 (by decide +kernel)
  obtain ⟨c2, a2, b2⟩ := h2 .byte 786 (by decide +kernel)
  obtain ⟨c3, a3, b3⟩ := h2 .long 442 (by decide +kernel)
  obtain ⟨comp, c4, k4, -, -, g3, g4, g5⟩ := am_over_spec (t := .int) (hTW.at (i := 404) (by decide +kernel) rfl #[])
  refine ⟨(fun c => (f c).1, fun c => (f c).2), fun k => if k = 100 then c0 else if k = 101 then c1 else if k = 102 then c2 else if k = 103 then c3 else c4, hf, fun k q hk => ?_⟩
  match k, hk with
  | 0, hk => cases hk; exact ⟨a0, b0⟩
  | 1, hk => cases hk; exact ⟨a1, b1⟩
  | 2, hk => cases hk; exact ⟨a2, b2⟩
  | 3, hk => cases hk; exact ⟨a3, b3⟩
  | 4, hk => cases hk; exact ⟨fun n z => ⟨fun k h => (by cases h), k4, g3, comp, g4⟩, g5⟩
  | k + 5, hk => exact absurd (List.getElem?_eq_some_iff.mp hk).1 (by simp [am_tys])
/-- the texts' places -/
def st_ad (s : State) (b t : Nat) (k : Nat) : Nat := if k = 1000 then b else if k = 1001 then t else match lw_tbl[k - 2000]? with
  | some (.stringRef o j _) => match (Term.string o j).eval #[] s none [] s with
    | some (.ref a) => a
    | _ => 0
  | _ => 0
def st_ok (w : Jvm.Cond) : Bool := match w with
  | .stringRef o j _ => decide (Jvm.Cond.exactly (.string o j) "java/lang/String" ∈ st_F)
  | _ => true
set_option maxRecDepth 100000 in
set_option maxHeartbeats 4000000 in
theorem st_ok_t : lw_tbl.all st_ok = true := by decide +kernel
def st_ok2 (q : Nat × List Int32) : Bool := Nat.ble 2000 q.1 && (match lw_tbl[q.1 - 2000]? with
  | some (.stringRef o j _) => decide (Jvm.Cond.eq (.field (.string o j) "java/lang/String" "coder" "B") (.int 0) ∈ st_F) && (decide (Jvm.Cond.arrayOf (.field (.string o j) "java/lang/String" "value" "[B") .byte ∈ st_F) && (decide (Jvm.Cond.eq (.length (.field (.string o j) "java/lang/String" "value" "[B")) (.int (Int32.ofNat q.2.length)) ∈ st_F) && (List.range q.2.length).all (fun t => decide (Jvm.Cond.eq (.elem (.field (.string o j) "java/lang/String" "value" "[B") (.int (Int32.ofNat t))) (.int (q.2.getD t 0)) ∈ st_F))))
  | _ => false)
set_option maxRecDepth 100000 in
set_option maxHeartbeats 4000000 in
theorem st_ok2_t : ∀ q ∈ am_TX, st_ok2 q = true := by decide +kernel
