/-! ===== the texts' indexOf, walked over the JDK's own code ===== -/
def js_P (B a b : Nat) (tx : List Int32) (U : State) : Prop := B ≤ U.heap.size ∧ am_TW U ∧ va_Z "java/lang/String" "COMPACT_STRINGS" "Z" (.int 1) (fun q => B ≤ q) U U.heap ∧ am_S1 a b tx (fun q => B ≤ q) U U.heap
def js_rm (f : Nat) : Room := { frames := f, cells := 0, slots := 0, locals := 40 * f }
def js_Q (r : Int32) : Array Value → State → Outcome → State → Prop := fun _ st oc t => oc = .returned (some (.int r)) ∧ t.heap = st.heap
def js_Met (l : Launch) (B a b : Nat) (tx : List Int32) (y : MethodName) (code : ByteArray) (maxL : Nat) (ret : Option FieldType) (as : List Value) (r : Int32) (f : Nat) : Prop := Met l y [.code y code maxL ret] (js_rm f) (va_Pc as (js_P B a b tx)) (js_Q r) 0 0 (fun _ => False)
theorem js_P.warm {B a b : Nat} {tx : List Int32} {s U : State} {H : Heap} {locs : List Loc} (hW : s.WarmedH U.vm) (hU : U.heap = H) (hS : va_S (fun q => B ≤ q) s.heap H locs) (h : js_P B a b tx s) : js_P B a b tx U := by
  obtain ⟨h1, h2, h3, g1, g2, g3, g4⟩ := h
  have hq : ∀ a : Nat, a < s.heap.size → ¬ B ≤ a → U.heap[a]? = s.heap[a]? := fun a k1 k2 => by
    rw [hU]
    exact hS.2.1 a k1 k2
  refine ⟨?_, h2.warm hW, (h3.kept hq).moved hW.alike, (g1.kept hq).moved hW.alike, (g2.kept hq).moved hW.alike, (g3.kept hq).moved hW.alike, (g4.kept hq).moved hW.alike⟩
  rw [hU]
  exact Nat.le_trans h1 hS.1
theorem js_blind {B a b : Nat} {tx : List Int32} {as : List Value} : FrameBlind (va_Pc as (js_P B a b tx)) := by
  intro v U g mk h
  obtain ⟨h0, h1⟩ := h
  exact ⟨h0, js_P.warm (s := U) (U := U.calling g mk v) (State.WarmedH.refl U) rfl va_S.rf h1⟩
theorem js_pre {B a b : Nat} {tx : List Int32} {as : List Value} {s : State} {H : Heap} {locs : List Loc} (h : js_P B a b tx s) (hS : va_S (fun q => B ≤ q) s.heap H locs) : PreS s H (va_Pc as (js_P B a b tx)) as := ⟨js_blind, fun U hU hW => ⟨rfl, h.warm hW hU hS⟩⟩
section MJ
variable {p : Program} {l : Launch} {e : Env} {R : Room} {s : State} {m : MethodId} {args : Array Value} {below : List Frame} {meth : Method} {c : Code} {H : Heap} {locs : List Loc} {cells slots : Nat} {Q : State → Prop} {cc : ByteArray} {pc nL : Nat} {la : Array Slot} {rest As : List Value} {B a b : Nat} {tx : List Int32} {y : MethodName} {code : ByteArray} {maxL idx n f : Nat} {ret : Option FieldType} {own : String} {r : Int32} {i1 i2 i3 i5 : Nat}
theorem js_words (hTW : am_TW s) (hc : lw_tbl[i1]? = some (.code y code maxL ret)) : ∀ w ∈ [Jvm.Cond.code y code maxL ret], ∀ (a' : Array Value) (U : State), s.WarmedH U.vm → w.before a' U = true := by
  intro w hw a' U hW
  rw [List.mem_singleton.mp hw]
  exact (hTW.warm hW).at hc rfl a'
theorem js_callX {st0 : List Value} {Qa : State → Outcome → State → Prop} (hr : va_Run p l e R s m args below meth c H locs cells slots 0 0 (F0 m pc la st0) rest Qa (fun _ => False)) (hQ : ∀ (st : State) (v : Option Value) (t : State), Qa st (.returned v) t → v = some (.int r) ∧ t.heap = st.heap) (kk : W p l e R s m args below meth c H locs cells slots Q (F0 m (pc + 3) la (.int r :: rest))) : W p l e R s m args below meth c H locs cells slots Q (F0 m pc la st0) := by
  intro T hT X
  obtain ⟨v, st₀, t, T', L, h0, X', hL, e1, e2, hq, st⟩ := hr T hT X
  obtain ⟨rfl, h2⟩ := hQ _ _ _ hq
  have eL : L = [] := by
    cases L with
    | nil => rfl
    | cons q L => exact (hL q List.mem_cons_self).elim
  subst eL
  rw [List.append_nil] at X'
  obtain ⟨t2, a1, b1⟩ := kk T' (by rw [e1, h2]; exact h0) X'
  exact ⟨t2, st t2 a1, b1⟩
theorem js_cs (hx : p.tables.exec = Jvm.exec) (hb : c.code = cc) (hml : c.maxLocals = nL) (hown : s.vm.findClass own = some m.cls) (hM : js_Met l B a b tx y code maxL ret As r f) (hP : js_P B a b tx s) (hS : va_S (fun q => B ≤ q) s.heap H locs) (hc : lw_tbl[i1]? = some (.code y code maxL ret)) (hi : lw_tbl[i2]? = some (.initialized y.cls)) (hst : lw_tbl[i3]? = some (.static y)) (hl : (Cond.methodLink own idx y).before args s = true) (hnp : am_np y.desc = some n) (hne : y.cls ≠ "java/lang/invoke/MethodHandle" ∧ y.cls ≠ "java/lang/invoke/VarHandle") (hfr : f + 1 ≤ R.frames) (hlo : 8 + (maxL + 11) + 40 * f ≤ R.locals) (hlen : As.length = n) (hsz : la.size = nL) (hrest : (rest.map fun v => v.category).sum ≤ 8) (hfit : cells ≤ R.cells ∧ slots ≤ R.slots) (hdg : decode cc pc = .ok (.invokestatic idx, 3)) (kk : W p l e R s m args below meth c H locs cells slots Q (F0 m (pc + 3) la (.int r :: rest))) : W p l e R s m args below meth c H locs cells slots Q (F0 m pc la (As.reverse ++ rest)) := by
  have hTW := hP.2.1
  refine js_callX (va_runS (Ts := []) (nL := nL) ⟨hx, hb, hml, hown, fun _ h => by cases h⟩ hM ⟨⟨rfl, rfl, hfr, hlo, js_words hTW hc, List.mem_cons_self, hTW.at hc rfl args, hTW.at hi rfl args, hne, am_np_len hnp, hl⟩, hTW.at hst rfl args⟩ (js_pre hP hS) rfl hlen hsz rfl (by show 2 * 0 + _ ≤ 8; omega) hdg hfit) (fun st v t h => ⟨by have := h.1; cases this; rfl, h.2⟩) kk
theorem js_cv (hx : p.tables.exec = Jvm.exec) (hb : c.code = cc) (hml : c.maxLocals = nL) (hown : s.vm.findClass own = some m.cls) (hM : js_Met l B a b tx y code maxL ret (.ref a :: As) r f) (hP : js_P B a b tx s) (hS : va_S (fun q => B ≤ q) s.heap H locs) (hc : lw_tbl[i1]? = some (.code y code maxL ret)) (hi : lw_tbl[i2]? = some (.initialized y.cls)) (hst : lw_tbl[i3]? = some (.instanceMethod y)) (hse : lw_tbl[i5]? = some (.selects "java/lang/String" y y)) (hl : (Cond.methodLink own idx y).before args s = true) (hnp : am_np y.desc = some n) (hne : y.cls ≠ "java/lang/invoke/MethodHandle" ∧ y.cls ≠ "java/lang/invoke/VarHandle") (hfr : f + 1 ≤ R.frames) (hlo : 8 + (maxL + 11) + 40 * f ≤ R.locals) (hlen : As.length = n) (hsz : la.size = nL) (hrest : (rest.map fun v => v.category).sum ≤ 8) (hfit : cells ≤ R.cells ∧ slots ≤ R.slots) (hdg : decode cc pc = .ok (.invokevirtual idx, 3)) (kk : W p l e R s m args below meth c H locs cells slots Q (F0 m (pc + 3) la (.int r :: rest))) : W p l e R s m args below meth c H locs cells slots Q (F0 m pc la (As.reverse ++ .ref a :: rest)) := by
  have hTW := hP.2.1
  have hrecv : ∃ cell : Cell, H[a]? = some cell ∧ cell.vm.isStatics = false ∧ s.vm.findClass "java/lang/String" = some cell.cls := by
    obtain ⟨cell, h1, h2, h3, -⟩ := hP.2.2.2.1.kept hS.2.1
    exact ⟨cell, h1, h2, h3⟩
  have hpre := js_pre (as := .ref a :: As) hP hS
  refine js_callX (va_runV (Ts := []) (nL := nL) (C := "java/lang/String") ⟨hx, hb, hml, hown, fun _ h => by cases h⟩ hM ⟨⟨rfl, rfl, hfr, hlo, js_words hTW hc, List.mem_cons_self, hTW.at hc rfl args, hTW.at hi rfl args, hne, am_np_len hnp, hl⟩, hTW.at hst rfl args, hTW.at hse rfl args⟩ ⟨hpre.1, hrecv, hpre.2⟩ rfl hlen hsz rfl (by show 2 * 0 + _ ≤ 8; omega) hdg hfit) (fun st v t h => ⟨by have := h.1; cases this; rfl, h.2⟩) kk
end MJ
section MJ2
variable {l : Launch} {B a b : Nat} {tx : List Int32}
set_option maxRecDepth 100000 in
set_option maxHeartbeats 4000000 in
theorem js_isLatin1 : js_Met l B a b tx yJ0_isLatin1_aae02 cJ0_isLatin1_aae02 1 (some .boolean) [.ref a] 1 0 := by
  refine Met.ofW (cc := cJ0_isLatin1_aae02) (maxL := 1) (ret := some .boolean) (by decide +kernel) rfl ?_
  intro p e s m args below meth c s₁ Bd hml hv
  obtain ⟨rfl, hP⟩ := hv
  have hx := Bd.exec
  have hb := Bd.bytes
  have hlocks := Bd.notSynchronized
  have hown : s.vm.findClass "java/lang/String" = some m.cls := findClass_of_methodNamed Bd.named
  have hTW := hP.2.1
  have hl := lv_entry [Value.ref a] (n := 1) (Nat.le_of_ble_eq_true rfl)
  rw [lg_entry_eq]
  generalize (lg_sl [Value.ref a] ++ List.replicate (1 - (lg_sl [Value.ref a]).length) Slot.unset).toArray = la at hl ⊢
  refine va_gets (index := 38) hx hb hP.2.2.1 va_S.rf hown (hTW.at (i := 556) (by decide +kernel) rfl _) (fun _ h => h) (by decide +kernel) ?_
  refine lv_if_eq hx hb (off := 14) (tgt := 17) (by decide +kernel) rfl (fun q => absurd q (by decide)) (fun _ => ?_)
  refine lv_aload_n hx hb (k := 0) (by decide +kernel) rfl (lv_at hl 0 rfl) ?_
  refine vk_getf (index := 15) hx hb hP.2.2.2.2.1 va_S.rf hown (hTW.at (i := 1778) (by decide +kernel) rfl _) (fun _ h => h) (by decide +kernel) ?_
  refine lv_if_ne hx hb (off := 7) (tgt := 17) (by decide +kernel) rfl (fun q => absurd rfl q) (fun _ => ?_)
  refine lv_iconst hx hb (n := 1) (by decide +kernel) rfl ?_
  refine lv_goto hx hb (off := 4) (tgt := 18) (by decide +kernel) rfl ?_
  exact W.zret (v := 1) (ty := .boolean) hx hb Bd.returns rfl (fun t ht _ => ⟨rfl, ht⟩) (fun _ h => by cases h) (by decide +kernel)
set_option maxRecDepth 100000 in
set_option maxHeartbeats 4000000 in
theorem js_coder : js_Met l B a b tx yJ0_coder_7d493 cJ0_coder_7d493 1 (some .byte) [.ref a] 0 0 := by
  refine Met.ofW (cc := cJ0_coder_7d493) (maxL := 1) (ret := some .byte) (by decide +kernel) rfl ?_
  intro p e s m args below meth c s₁ Bd hml hv
  obtain ⟨rfl, hP⟩ := hv
  have hx := Bd.exec
  have hb := Bd.bytes
  have hlocks := Bd.notSynchronized
  have hown : s.vm.findClass "java/lang/String" = some m.cls := findClass_of_methodNamed Bd.named
  have hTW := hP.2.1
  have hl := lv_entry [Value.ref a] (n := 1) (Nat.le_of_ble_eq_true rfl)
  rw [lg_entry_eq]
  generalize (lg_sl [Value.ref a] ++ List.replicate (1 - (lg_sl [Value.ref a]).length) Slot.unset).toArray = la at hl ⊢
  refine va_gets (index := 38) hx hb hP.2.2.1 va_S.rf hown (hTW.at (i := 556) (by decide +kernel) rfl _) (fun _ h => h) (by decide +kernel) ?_
  refine lv_if_eq hx hb (off := 10) (tgt := 13) (by decide +kernel) rfl (fun q => absurd q (by decide)) (fun _ => ?_)
  refine lv_aload_n hx hb (k := 0) (by decide +kernel) rfl (lv_at hl 0 rfl) ?_
  refine vk_getf (index := 15) hx hb hP.2.2.2.2.1 va_S.rf hown (hTW.at (i := 1778) (by decide +kernel) rfl _) (fun _ h => h) (by decide +kernel) ?_
  refine lv_goto hx hb (off := 4) (tgt := 14) (by decide +kernel) rfl ?_
  exact W.zret (v := 0) (ty := .byte) hx hb Bd.returns rfl (fun t ht _ => ⟨rfl, ht⟩) (fun _ h => by cases h) (by decide +kernel)
set_option maxRecDepth 100000 in
set_option maxHeartbeats 4000000 in
theorem js_length (hn : tx.length < 1000) : js_Met l B a b tx yJ0_length_8abf5 cJ0_length_8abf5 1 (some .int) [.ref a] (nI tx.length) 1 := by
  refine Met.ofW (cc := cJ0_length_8abf5) (maxL := 1) (ret := some .int) (by decide +kernel) rfl ?_
  intro p e s m args below meth c s₁ Bd hml hv
  obtain ⟨rfl, hP⟩ := hv
  have hx := Bd.exec
  have hb := Bd.bytes
  have hlocks := Bd.notSynchronized
  have hown : s.vm.findClass "java/lang/String" = some m.cls := findClass_of_methodNamed Bd.named
  have hTW := hP.2.1
  have hl := lv_entry [Value.ref a] (n := 1) (Nat.le_of_ble_eq_true rfl)
  rw [lg_entry_eq]
  generalize (lg_sl [Value.ref a] ++ List.replicate (1 - (lg_sl [Value.ref a]).length) Slot.unset).toArray = la at hl ⊢
  refine lv_aload_n hx hb (k := 0) (by decide +kernel) rfl (lv_at hl 0 rfl) ?_
  refine vk_getf (index := 9) hx hb hP.2.2.2.2.2.1 va_S.rf hown (hTW.at (i := 1779) (by decide +kernel) rfl _) (fun _ h => h) (by decide +kernel) ?_
  refine va_tlen hx hb hP.2.2.2.2.2.2 va_S.rf (v := nI tx.length) rfl (by decide +kernel) ?_
  refine lv_aload_n hx hb (k := 0) (by decide +kernel) rfl (lv_at hl 0 rfl) ?_
  refine js_cv (As := []) (rest := [.int (nI tx.length)]) (idx := 335) (i1 := 565) (i2 := 105) (i3 := 563) (i5 := 564) (n := 0) (f := 0) hx hb hml hown js_coder hP va_S.rf (by decide +kernel) (by decide +kernel) (by decide +kernel) (by decide +kernel) (hTW.at (i := 562) (by decide +kernel) rfl _) (by decide +kernel) (by decide +kernel) (by decide) (by decide) rfl hl.1 (by show 1 + 0 ≤ 8; decide) ⟨Nat.zero_le _, Nat.zero_le _⟩ (by decide +kernel) ?_
  refine lv_ishr hx hb (by decide +kernel) ?_
  rw [show nI tx.length >>> ((0 : Int32) &&& 31) = nI tx.length from sc_shr0 (by omega)]
  exact W.iret (v := nI tx.length) hx hb Bd.returns (fun t ht _ => ⟨rfl, ht⟩) (fun _ h => by cases h) (by decide +kernel)
set_option maxRecDepth 100000 in
set_option maxHeartbeats 4000000 in
theorem js_canEncode {x : Int32} (h0 : 0 ≤ x) : js_Met l B a b tx yJ1_canEncode_9a6ad cJ1_canEncode_9a6ad 1 (some .boolean) [.int x] (if 255 < x then 0 else 1) 0 := by
  refine Met.ofW (cc := cJ1_canEncode_9a6ad) (maxL := 1) (ret := some .boolean) (by decide +kernel) rfl ?_
  intro p e s m args below meth c s₁ Bd hml hv
  obtain ⟨rfl, hP⟩ := hv
  have hx := Bd.exec
  have hb := Bd.bytes
  have hlocks := Bd.notSynchronized
  have hl := lv_entry [Value.int x] (n := 1) (Nat.le_of_ble_eq_true rfl)
  rw [lg_entry_eq]
  generalize (lg_sl [Value.int x] ++ List.replicate (1 - (lg_sl [Value.int x]).length) Slot.unset).toArray = la at hl ⊢
  refine lv_iload_n hx hb (k := 0) (by decide +kernel) rfl (lv_at hl 0 rfl) ?_
  refine lv_if_lt hx hb (off := 14) (tgt := 15) (by decide +kernel) rfl (fun q => absurd h0 (Int32.not_le.mpr q)) (fun _ => ?_)
  refine lv_iload_n hx hb (k := 0) (by decide +kernel) rfl (lv_at hl 0 rfl) ?_
  refine lv_sipush hx hb (n := 255) (v := 255) (by decide +kernel) rfl ?_
  refine lv_icmp_gt hx hb (off := 7) (tgt := 15) (by decide +kernel) rfl (fun q => ?_) (fun q => ?_)
  · refine lv_iconst hx hb (n := 0) (v := 0) (by decide +kernel) rfl ?_
    exact W.zret (v := 0) (ty := .boolean) hx hb Bd.returns rfl (fun t ht _ => ⟨by rw [if_pos q], ht⟩) (fun _ h => by cases h) (by decide +kernel)
  · refine lv_iconst hx hb (n := 1) (v := 1) (by decide +kernel) rfl ?_
    refine lv_goto hx hb (off := 4) (tgt := 16) (by decide +kernel) rfl ?_
    exact W.zret (v := 1) (ty := .boolean) hx hb Bd.returns rfl (fun t ht _ => ⟨by rw [if_neg q], ht⟩) (fun _ h => by cases h) (by decide +kernel)
set_option maxRecDepth 100000 in
set_option maxHeartbeats 4000000 in
theorem js_b8 : ∀ j, j < 256 → ∀ i, i < 128 → (nI i = (nI j).toInt8.toInt32 ↔ i = j) := by decide +kernel
set_option maxRecDepth 100000 in
set_option maxHeartbeats 4000000 in
theorem js_ixChar (hn : tx.length < 1000) {j : Nat} (hj : j < 256) (hT : ∀ y ∈ tx, ∃ i, i < 128 ∧ y = nI i) : js_Met l B a b tx yJ1_indexOfChar_4cfef cJ1_indexOfChar_4cfef 6 (some .int) [.ref b, .int (nI j), .int 0, .int (nI tx.length)] (am_sfind (nI j) 0 tx) 0 := by
  refine Met.ofW (cc := cJ1_indexOfChar_4cfef) (maxL := 6) (ret := some .int) (by decide +kernel) rfl ?_
  intro p e s m args below meth c s₁ Bd hml hv
  obtain ⟨rfl, hP⟩ := hv
  have hx := Bd.exec
  have hb := Bd.bytes
  have hlocks := Bd.notSynchronized
  have hl := lv_entry [Value.ref b, .int (nI j), .int 0, .int (nI tx.length)] (n := 6) (Nat.le_of_ble_eq_true rfl)
  rw [lg_entry_eq]
  generalize (lg_sl [Value.ref b, .int (nI j), .int 0, .int (nI tx.length)] ++ List.replicate (6 - (lg_sl [Value.ref b, .int (nI j), .int 0, .int (nI tx.length)]).length) Slot.unset).toArray = la at hl ⊢
  have key : ∀ (r : List Int32) (k : Nat) (la : Array Slot), tx.drop k = r → k ≤ tx.length → am_sfind (nI j) 0 tx = am_sfind (nI j) (nI k) r → lv_has la 6 [(5, .int (nI k)), (4, .int (nI j).toInt8.toInt32), (0, .ref b), (1, .int (nI j)), (2, .int 0), (3, .int (nI tx.length))] → W p l e (headSpec [Jvm.Cond.code yJ1_indexOfChar_4cfef cJ1_indexOfChar_4cfef 6 (some .int)] (js_rm 0)).room s m [Value.ref b, .int (nI j), .int 0, .int (nI tx.length)].toArray below meth c s.heap [] 0 0 (MQ below (js_Q (am_sfind (nI j) 0 tx)) [Value.ref b, .int (nI j), .int 0, .int (nI tx.length)].toArray s 0 0 (fun _ => False)) (F0 m 7 la []) := by
    intro r
    induction r with
    | nil =>
      intro k la hd hk hs hl
      have := List.drop_eq_nil_iff.mp hd
      refine lv_iload (i := 5) hx hb (by decide +kernel) (lv_at hl 0 rfl) ?_
      refine lv_iload_n hx hb (k := 3) (by decide +kernel) rfl (lv_at hl 5 rfl) ?_
      refine lv_icmp_ge hx hb (off := 21) (tgt := 31) (by decide +kernel) rfl (fun q => ?_) (fun q => absurd (nI_le this (by omega)) q)
      refine lv_iconst hx hb (n := -1) (v := -1) (by decide +kernel) rfl ?_
      exact W.iret (v := -1) hx hb Bd.returns (fun t ht _ => ⟨by rw [hs]; rfl, ht⟩) (fun _ h => by cases h) (by decide +kernel)
    | cons y r ih =>
      intro k la hd hk hs hl
      have e1 : tx[k]? = some y := by
        have := congrArg (fun z => z[0]?) hd
        simpa using this
      have hlt : k < tx.length := (List.getElem?_eq_some_iff.mp e1).1
      have e2 : tx.drop (k + 1) = r := by
        have := congrArg (List.drop 1) hd
        simpa [List.drop_drop] using this
      obtain ⟨i, hi, rfl⟩ := hT y (List.mem_of_getElem? e1)
      have gd : tx.getD k 0 = nI i := by
        rw [List.getD_eq_getElem?_getD, e1]
        rfl
      refine lv_iload (i := 5) hx hb (by decide +kernel) (lv_at hl 0 rfl) ?_
      refine lv_iload_n hx hb (k := 3) (by decide +kernel) rfl (lv_at hl 5 rfl) ?_
      refine lv_icmp_ge hx hb (off := 21) (tgt := 31) (by decide +kernel) rfl (fun q => absurd q (nI_ge hlt (by omega))) (fun q => ?_)
      refine lv_aload_n hx hb (k := 0) (by decide +kernel) rfl (lv_at hl 2 rfl) ?_
      refine lv_iload (i := 5) hx hb (by decide +kernel) (lv_at hl 0 rfl) ?_
      refine va_tb hx hb hP.2.2.2.2.2.2 va_S.rf (vp_in_nI hlt (by omega)) (v := .int (nI i)) (by rw [nI_clamp (by omega), gd]) (by decide +kernel) ?_
      refine lv_iload (i := 4) hx hb (by decide +kernel) (lv_at hl 1 rfl) ?_
      refine lv_icmp_ne hx hb (off := 6) (tgt := 25) (by decide +kernel) rfl (fun q => ?_) (fun q => ?_)
      · have ne : ¬ i = j := fun t => q ((js_b8 j hj i hi).mpr t)
        refine lv_iinc hx hb (i := 5) (n := 1) (k := 0) (v := nI (k + 1)) (lv' := [(5, .int (nI (k + 1))), (4, .int (nI j).toInt8.toInt32), (0, .ref b), (1, .int (nI j)), (2, .int 0), (3, .int (nI tx.length))]) (by decide +kernel) hl rfl (nI_1 k) (by decide) rfl (fun la2 hl2 => ?_)
        refine lv_goto hx hb (off := -21) (tgt := 7) (by decide +kernel) rfl ?_
        refine ih (k + 1) la2 e2 hlt ?_ hl2
        rw [hs]
        show (if nI i = nI j then _ else _) = _
        rw [if_neg (fun t => ne ((nI_eq (by omega) (by omega)).mp t)), nI_1]
      · have eq : i = j := (js_b8 j hj i hi).mp q
        refine lv_iload (i := 5) hx hb (by decide +kernel) (lv_at hl 0 rfl) ?_
        refine W.iret (v := nI k) hx hb Bd.returns (fun t ht _ => ⟨?_, ht⟩) (fun _ h => by cases h) (by decide +kernel)
        rw [hs]
        show _ = Outcome.returned (some (.int (if nI i = nI j then _ else _)))
        rw [if_pos (by rw [eq])]
  refine lv_iload_n hx hb (k := 1) (by decide +kernel) rfl (lv_at hl 1 rfl) ?_
  refine lv_i2b hx hb (by decide +kernel) rfl ?_
  refine lv_istore hx hb (i := 4) (lv' := [(4, .int (nI j).toInt8.toInt32), (0, .ref b), (1, .int (nI j)), (2, .int 0), (3, .int (nI tx.length))]) (by decide +kernel) hl (by decide) rfl (fun la2 hl2 => ?_)
  refine lv_iload_n hx hb (k := 2) (by decide +kernel) rfl (lv_at hl2 3 rfl) ?_
  refine lv_istore hx hb (i := 5) (lv' := [(5, .int (nI 0)), (4, .int (nI j).toInt8.toInt32), (0, .ref b), (1, .int (nI j)), (2, .int 0), (3, .int (nI tx.length))]) (by decide +kernel) hl2 (by decide) rfl (fun la3 hl3 => ?_)
  exact key tx 0 la3 rfl (Nat.zero_le _) rfl hl3
set_option maxRecDepth 100000 in
set_option maxHeartbeats 4000000 in
theorem js_ixLatin (hn : tx.length < 1000) (hne : 0 < tx.length) {x : Int32} (h0 : 0 ≤ x) (hT : ∀ y ∈ tx, ∃ i, i < 128 ∧ y = nI i) : js_Met l B a b tx yJ1_indexOf_4cfef cJ1_indexOf_4cfef 4 (some .int) [.ref b, .int x, .int 0, .int (nI tx.length)] (am_sfind x 0 tx) 1 := by
  refine Met.ofW (cc := cJ1_indexOf_4cfef) (maxL := 4) (ret := some .int) (by decide +kernel) rfl ?_
  intro p e s m args below meth c s₁ Bd hml hv
  obtain ⟨rfl, hP⟩ := hv
  have hx := Bd.exec
  have hb := Bd.bytes
  have hlocks := Bd.notSynchronized
  have hown : s.vm.findClass "java/lang/StringLatin1" = some m.cls := findClass_of_methodNamed Bd.named
  have hTW := hP.2.1
  have hl := lv_entry [Value.ref b, .int x, .int 0, .int (nI tx.length)] (n := 4) (Nat.le_of_ble_eq_true rfl)
  rw [lg_entry_eq]
  generalize (lg_sl [Value.ref b, .int x, .int 0, .int (nI tx.length)] ++ List.replicate (4 - (lg_sl [Value.ref b, .int x, .int 0, .int (nI tx.length)]).length) Slot.unset).toArray = la at hl ⊢
  refine lv_iload_n hx hb (k := 1) (by decide +kernel) rfl (lv_at hl 1 rfl) ?_
  refine js_cs (As := [.int x]) (rest := []) (idx := 88) (i1 := 571) (i2 := 106) (i3 := 570) (n := 1) (f := 0) hx hb hml hown (js_canEncode h0) hP va_S.rf (by decide +kernel) (by decide +kernel) (by decide +kernel) (hTW.at (i := 569) (by decide +kernel) rfl _) (by decide +kernel) (by decide +kernel) (by decide) (by decide) rfl hl.1 (by decide) ⟨Nat.zero_le _, Nat.zero_le _⟩ (by decide +kernel) ?_
  by_cases hq : 255 < x
  · rw [if_pos hq]
    have out : am_sfind x 0 tx = -1 := by
      have : ∀ (r : List Int32) (k : Int32), (∀ y ∈ r, y ∈ tx) → am_sfind x k r = -1 := by
        intro r
        induction r with
        | nil =>
          intro k _
          rfl
        | cons y r ih =>
          intro k hr
          obtain ⟨i, hi, e⟩ := hT y (hr y List.mem_cons_self)
          show (if y = x then _ else _) = _
          rw [if_neg (fun t => by
            rw [← t, e] at hq
            exact absurd hq (nI_nlt (a := 255) (by omega) (by omega)))]
          exact ih _ (fun z hz => hr z (List.mem_cons_of_mem _ hz))
      exact this tx 0 (fun _ h => h)
    refine lv_if_ne hx hb (off := 5) (tgt := 9) (by decide +kernel) rfl (fun q => absurd rfl q) (fun _ => ?_)
    refine lv_iconst hx hb (n := -1) (v := -1) (by decide +kernel) rfl ?_
    exact W.iret (v := -1) hx hb Bd.returns (fun t ht _ => ⟨by rw [out], ht⟩) (fun _ h => by cases h) (by decide +kernel)
  · rw [if_neg hq]
    obtain ⟨j, hj, rfl⟩ : ∃ j, j < 256 ∧ x = nI j := by
      obtain ⟨j, hj, e⟩ := nI_of (Int32.not_lt.mpr h0)
      refine ⟨j, ?_, e⟩
      rcases Nat.lt_or_ge j 256 with q | q
      · exact q
      · rw [e] at hq
        exact absurd (nI_lt (a := 255) (b := j) (by omega) hj) hq
    refine lv_if_ne hx hb (off := 5) (tgt := 9) (by decide +kernel) rfl (fun _ => ?_) (fun q => absurd q (by decide))
    refine lv_iload_n hx hb (k := 2) (by decide +kernel) rfl (lv_at hl 2 rfl) ?_
    refine lv_iconst hx hb (n := 0) (v := 0) (by decide +kernel) rfl ?_
    refine va_mmax (index := 92) hx hb (by rw [hml]; exact hl.1.symm) hown (hTW.at (i := 572) (by decide +kernel) rfl _) (hTW _ am_prims.2.2.2.1 rfl _) (hTW _ am_prims.2.2.1 rfl _) (hTW _ am_prims.2.2.2.2.2.2.1 rfl _) (by decide) (by decide) (Nat.zero_le _) (Nat.zero_le _) (by decide +kernel) ?_
    rw [show (if (0 : Int32) < 0 then (0 : Int32) else 0) = 0 from rfl]
    refine lv_istore_n hx hb (k := 2) (i := 2) (lv' := [(2, .int 0), (0, .ref b), (1, .int (nI j)), (3, .int (nI tx.length))]) (by decide +kernel) rfl hl (by decide) rfl (fun la2 hl2 => ?_)
    refine lv_iload_n hx hb (k := 3) (by decide +kernel) rfl (lv_at hl2 3 rfl) ?_
    refine lv_aload_n hx hb (k := 0) (by decide +kernel) rfl (lv_at hl2 1 rfl) ?_
    refine va_tlen hx hb hP.2.2.2.2.2.2 va_S.rf (v := nI tx.length) rfl (by decide +kernel) ?_
    refine va_mmin (index := 38) hx hb (by rw [hml]; exact hl2.1.symm) hown (hTW.at (i := 575) (by decide +kernel) rfl _) (hTW _ am_prims.2.2.2.2.1 rfl _) (hTW _ am_prims.2.2.1 rfl _) (hTW _ am_prims.2.2.2.2.2.2.2.1 rfl _) (by decide) (by decide) (Nat.zero_le _) (Nat.zero_le _) (by decide +kernel) ?_
    rw [ite_self]
    refine lv_istore_n hx hb (k := 3) (i := 3) (lv' := [(3, .int (nI tx.length)), (2, .int 0), (0, .ref b), (1, .int (nI j))]) (by decide +kernel) rfl hl2 (by decide) rfl (fun la3 hl3 => ?_)
    refine lv_iload_n hx hb (k := 2) (by decide +kernel) rfl (lv_at hl3 1 rfl) ?_
    refine lv_iload_n hx hb (k := 3) (by decide +kernel) rfl (lv_at hl3 0 rfl) ?_
    refine lv_icmp_lt hx hb (off := 5) (tgt := 29) (by decide +kernel) rfl (fun _ => ?_) (fun q => absurd (nI_lt (a := 0) hne (by omega)) q)
    refine lv_aload_n hx hb (k := 0) (by decide +kernel) rfl (lv_at hl3 2 rfl) ?_
    refine lv_iload_n hx hb (k := 1) (by decide +kernel) rfl (lv_at hl3 3 rfl) ?_
    refine lv_iload_n hx hb (k := 2) (by decide +kernel) rfl (lv_at hl3 1 rfl) ?_
    refine lv_iload_n hx hb (k := 3) (by decide +kernel) rfl (lv_at hl3 0 rfl) ?_
    refine js_cs (As := [.ref b, .int (nI j), .int 0, .int (nI tx.length)]) (rest := []) (idx := 95) (i1 := 580) (i2 := 106) (i3 := 579) (n := 4) (f := 0) hx hb hml hown (js_ixChar hn hj hT) hP va_S.rf (by decide +kernel) (by decide +kernel) (by decide +kernel) (hTW.at (i := 578) (by decide +kernel) rfl _) (by decide +kernel) (by decide +kernel) (by decide) (by decide) rfl hl3.1 (by decide) ⟨Nat.zero_le _, Nat.zero_le _⟩ (by decide +kernel) ?_
    exact W.iret (v := am_sfind (nI j) 0 tx) hx hb Bd.returns (fun t ht _ => ⟨rfl, ht⟩) (fun _ h => by cases h) (by decide +kernel)
set_option maxRecDepth 100000 in
set_option maxHeartbeats 4000000 in
theorem js_ix2 (hn : tx.length < 1000) (hne : 0 < tx.length) {x : Int32} (h0 : 0 ≤ x) (hT : ∀ y ∈ tx, ∃ i, i < 128 ∧ y = nI i) : js_Met l B a b tx yJ0_indexOf_7cf53 cJ0_indexOf_7cf53 3 (some .int) [.ref a, .int x, .int 0] (am_sfind x 0 tx) 2 := by
  refine Met.ofW (cc := cJ0_indexOf_7cf53) (maxL := 3) (ret := some .int) (by decide +kernel) rfl ?_
  intro p e s m args below meth c s₁ Bd hml hv
  obtain ⟨rfl, hP⟩ := hv
  have hx := Bd.exec
  have hb := Bd.bytes
  have hlocks := Bd.notSynchronized
  have hown : s.vm.findClass "java/lang/String" = some m.cls := findClass_of_methodNamed Bd.named
  have hTW := hP.2.1
  have hl := lv_entry [Value.ref a, .int x, .int 0] (n := 3) (Nat.le_of_ble_eq_true rfl)
  rw [lg_entry_eq]
  generalize (lg_sl [Value.ref a, .int x, .int 0] ++ List.replicate (3 - (lg_sl [Value.ref a, .int x, .int 0]).length) Slot.unset).toArray = la at hl ⊢
  refine lv_aload_n hx hb (k := 0) (by decide +kernel) rfl (lv_at hl 0 rfl) ?_
  refine js_cv (As := []) (rest := []) (idx := 492) (i1 := 555) (i2 := 105) (i3 := 553) (i5 := 554) (n := 0) (f := 0) hx hb hml hown js_isLatin1 hP va_S.rf (by decide +kernel) (by decide +kernel) (by decide +kernel) (by decide +kernel) (hTW.at (i := 552) (by decide +kernel) rfl _) (by decide +kernel) (by decide +kernel) (by decide) (by decide) rfl hl.1 (by decide) ⟨Nat.zero_le _, Nat.zero_le _⟩ (by decide +kernel) ?_
  refine lv_if_eq hx hb (off := 19) (tgt := 23) (by decide +kernel) rfl (fun q => absurd q (by decide)) (fun _ => ?_)
  refine lv_aload_n hx hb (k := 0) (by decide +kernel) rfl (lv_at hl 0 rfl) ?_
  refine vk_getf (index := 9) hx hb hP.2.2.2.2.2.1 va_S.rf hown (hTW.at (i := 1779) (by decide +kernel) rfl _) (fun _ h => h) (by decide +kernel) ?_
  refine lv_iload_n hx hb (k := 1) (by decide +kernel) rfl (lv_at hl 1 rfl) ?_
  refine lv_iload_n hx hb (k := 2) (by decide +kernel) rfl (lv_at hl 2 rfl) ?_
  refine lv_aload_n hx hb (k := 0) (by decide +kernel) rfl (lv_at hl 0 rfl) ?_
  refine js_cv (As := []) (rest := [.int 0, .int x, .ref b]) (idx := 505) (i1 := 561) (i2 := 105) (i3 := 559) (i5 := 560) (n := 0) (f := 1) hx hb hml hown (js_length hn) hP va_S.rf (by decide +kernel) (by decide +kernel) (by decide +kernel) (by decide +kernel) (hTW.at (i := 558) (by decide +kernel) rfl _) (by decide +kernel) (by decide +kernel) (by decide) (by decide) rfl hl.1 (by show 1 + (1 + (1 + 0)) ≤ 8; decide) ⟨Nat.zero_le _, Nat.zero_le _⟩ (by decide +kernel) ?_
  refine js_cs (As := [.ref b, .int x, .int 0, .int (nI tx.length)]) (rest := []) (idx := 637) (i1 := 568) (i2 := 106) (i3 := 567) (n := 4) (f := 1) hx hb hml hown (js_ixLatin hn hne h0 hT) hP va_S.rf (by decide +kernel) (by decide +kernel) (by decide +kernel) (hTW.at (i := 566) (by decide +kernel) rfl _) (by decide +kernel) (by decide +kernel) (by decide) (by decide) rfl hl.1 (by decide) ⟨Nat.zero_le _, Nat.zero_le _⟩ (by decide +kernel) ?_
  refine lv_goto hx hb (off := 16) (tgt := 36) (by decide +kernel) rfl ?_
  exact W.iret (v := am_sfind x 0 tx) hx hb Bd.returns (fun t ht _ => ⟨rfl, ht⟩) (fun _ h => by cases h) (by decide +kernel)
set_option maxRecDepth 100000 in
set_option maxHeartbeats 4000000 in
theorem js_ix1 (hn : tx.length < 1000) (hne : 0 < tx.length) {x : Int32} (h0 : 0 ≤ x) (hT : ∀ y ∈ tx, ∃ i, i < 128 ∧ y = nI i) : js_Met l B a b tx yJ0_indexOf_0f7a4 cJ0_indexOf_0f7a4 2 (some .int) [.ref a, .int x] (am_sfind x 0 tx) 3 := by
  refine Met.ofW (cc := cJ0_indexOf_0f7a4) (maxL := 2) (ret := some .int) (by decide +kernel) rfl ?_
  intro p e s m args below meth c s₁ Bd hml hv
  obtain ⟨rfl, hP⟩ := hv
  have hx := Bd.exec
  have hb := Bd.bytes
  have hlocks := Bd.notSynchronized
  have hown : s.vm.findClass "java/lang/String" = some m.cls := findClass_of_methodNamed Bd.named
  have hTW := hP.2.1
  have hl := lv_entry [Value.ref a, .int x] (n := 2) (Nat.le_of_ble_eq_true rfl)
  rw [lg_entry_eq]
  generalize (lg_sl [Value.ref a, .int x] ++ List.replicate (2 - (lg_sl [Value.ref a, .int x]).length) Slot.unset).toArray = la at hl ⊢
  refine lv_aload_n hx hb (k := 0) (by decide +kernel) rfl (lv_at hl 0 rfl) ?_
  refine lv_iload_n hx hb (k := 1) (by decide +kernel) rfl (lv_at hl 1 rfl) ?_
  refine lv_iconst hx hb (n := 0) (v := 0) (by decide +kernel) rfl ?_
  refine js_cv (As := [.int x, .int 0]) (rest := []) (idx := 633) (i1 := 551) (i2 := 105) (i3 := 549) (i5 := 550) (n := 2) (f := 2) hx hb hml hown (js_ix2 hn hne h0 hT) hP va_S.rf (by decide +kernel) (by decide +kernel) (by decide +kernel) (by decide +kernel) (hTW.at (i := 548) (by decide +kernel) rfl _) (by decide +kernel) (by decide +kernel) (by decide) (by decide) rfl hl.1 (by decide) ⟨Nat.zero_le _, Nat.zero_le _⟩ (by decide +kernel) ?_
  exact W.iret (v := am_sfind x 0 tx) hx hb Bd.returns (fun t ht _ => ⟨rfl, ht⟩) (fun _ h => by cases h) (by decide +kernel)
end MJ2
theorem am_sat_mem : ∀ (l : List (Nat × List Int32)) (k : Nat) (t : List Int32), am_sat l k = some t → (k, t) ∈ l
  | [], k, t, h => by cases h
  | q :: l, k, t, h => by
    unfold am_sat at h
    split at h
    · rename_i hb
      have e := Nat.eq_of_beq_eq_true hb
      cases h
      rw [e]
      exact List.mem_cons_self
    · exact List.mem_cons_of_mem _ (am_sat_mem l k t h)
def js_okt (t : List Int32) : Bool := decide (0 < t.length ∧ t.length < 1000) && t.all (fun y => decide (0 ≤ y ∧ y < 128))
theorem js_TX : ∀ q ∈ am_TX, js_okt q.2 = true := by decide +kernel
set_option maxRecDepth 100000 in
set_option maxHeartbeats 4000000 in
theorem am_ioK {l : Launch} {B : Nat} {K : am_K} : am_IOK l B K am_idx := by
  intro p e R s m args below meth c H locs cells slots Q cc pc la rest ad k x idx own f hx hb hml hown hTW hCU hB hS hfr hlo hc hs hlk hxx hI hrest hdg kk
  obtain ⟨t, ht, hf⟩ : ∃ t, am_sat am_strs k = some t ∧ f = fun c => am_sfind c 0 t := by
    unfold am_idx at hI
    cases h : am_sat am_strs k with
    | none =>
      rw [h] at hI
      cases hI
    | some t =>
      rw [h] at hI
      exact ⟨t, rfl, (Option.some.inj hI).symm⟩
  subst hf
  have hm := am_sat_mem _ _ _ ht
  obtain ⟨b, hS1⟩ := hCU.2.2.2.2 k t hm
  obtain ⟨o1, o2⟩ := (Bool.and_eq_true _ _).mp (js_TX _ hm)
  obtain ⟨hne, hn⟩ := of_decide_eq_true o1
  have hT : ∀ y ∈ t, ∃ i, i < 128 ∧ y = nI i := fun y hy => by
    obtain ⟨g1, g2⟩ := of_decide_eq_true (List.all_eq_true.mp o2 y hy)
    obtain ⟨i, hi, e⟩ := nI_of (Int32.not_lt.mpr g1)
    refine ⟨i, ?_, e⟩
    rcases Nat.lt_or_ge i 128 with q | q
    · exact q
    · rw [e] at g2
      exact absurd g2 (nI_nlt (b := 128) q hi)
  exact js_cv (As := [.int x]) (i1 := 547) (i2 := 105) (i3 := 545) (i5 := 546) (n := 1) (f := 3) hx hb hml hown (js_ix1 hn hne hxx.1 hT) ⟨hB, hTW, hCU.2.2.2.1, hS1⟩ hS (by decide +kernel) (by decide +kernel) (by decide +kernel) (by decide +kernel) hlk (by decide +kernel) (by decide +kernel) (by omega) (by omega) rfl rfl hrest ⟨hc, hs⟩ hdg kk
