/-! ===== the texts' indexOf, walked over the JDK's own code ===== -/
def js_P (B a b : Nat) (tx : List Int32) (U : State) : Prop := B ≤ U.heap.size ∧ am_TW U ∧ va_Z "java/lang/String" "COMPACT_STRINGS" "Z" (.int 1) (fun q => B ≤ q) U U.heap ∧ am_S1 a b tx (fun q => B ≤ q) U U.heap
def js_rm (f : Nat) : Room := { frames := f, cells := 0, slots := 0, locals := 40 * f }
def js_Q (B : Nat) (r : Int32) : Array Value → State → Outcome → State → Prop := fun _ st oc t => oc = .returned (some (.int r)) ∧ va_F (fun q => B ≤ q) st t
def js_Met (l : Launch) (B a b : Nat) (tx : List Int32) (y : MethodName) (code : ByteArray) (maxL : Nat) (ret : Option FieldType) (as : List Value) (r : Int32) (f : Nat) : Prop := Met l y [.code y code maxL ret] (js_rm f) (va_Pc as (js_P B a b tx)) (js_Q B r) 0 0 (fun q => B ≤ q)
theorem js_P.warm {B a b : Nat} {tx : List Int32} {s U : State} {H : Heap} {locs : List Loc} (hW : s.WarmedH U.vm) (hU : U.heap = H) (hS : va_S (fun q => B ≤ q) s.heap H locs) (h : js_P B a b tx s) : js_P B a b tx U := by
  obtain ⟨h1, h2, h3, g1, g2, g3, g4⟩ := h
  have hq : ∀ a : Nat, a < s.heap.size → ¬ B ≤ a → U.heap[a]? = s.heap[a]? := fun a k1 k2 => by
    rw [hU]
    exact hS.2.1 a k1 k2
  refine ⟨?_, h2.warm hW, (h3.kept hq).moved hW.alike, (g1.kept hq).moved hW.alike, (g2.kept hq).moved hW.alike, (g3.kept hq).moved hW.alike, (g4.kept hq).moved hW.alike⟩
  rw [hU]
  exact Nat.le_trans h1 hS.1
theorem js_blind {B a b : Nat} {tx : List Int32} {as : List Value} : FrameBlind (va_Pc as (js_P B a b tx)) := by
  intro v U g mk h
  obtain ⟨h0, h1⟩ := h
  exact ⟨h0, js_P.warm (s := U) (U := U.calling g mk v) (State.WarmedH.refl U) rfl va_S.rf h1⟩
theorem js_pre {B a b : Nat} {tx : List Int32} {as : List Value} {s : State} {H : Heap} {locs : List Loc} (h : js_P B a b tx s) (hS : va_S (fun q => B ≤ q) s.heap H locs) : PreS s H (va_Pc as (js_P B a b tx)) as := ⟨js_blind, fun U hU hW => ⟨rfl, h.warm hW hU hS⟩⟩
section MJ
variable {p : Program} {l : Launch} {e : Env} {R : Room} {s : State} {m : MethodId} {args : Array Value} {below : List Frame} {meth : Method} {c : Code} {H : Heap} {locs : List Loc} {cells slots : Nat} {Q : State → Prop} {cc : ByteArray} {pc nL : Nat} {la : Array Slot} {rest As : List Value} {B a b : Nat} {tx : List Int32} {y : MethodName} {code : ByteArray} {maxL idx n f : Nat} {ret : Option FieldType} {own : String} {r : Int32} {i1 i2 i3 i4 i5 : Nat}
theorem js_words (hTW : am_TW s) (hc : lw_tbl[i1]? = some (.code y code maxL ret)) : ∀ w ∈ [Jvm.Cond.code y code maxL ret], ∀ (a' : Array Value) (U : State), s.WarmedH U.vm → w.before a' U = true := by
  intro w hw a' U hW
  rw [List.mem_singleton.mp hw]
  exact (hTW.warm hW).at hc rfl a'
theorem js_cs (hx : p.tables.exec = Jvm.exec) (hb : c.code = cc) (hml : c.maxLocals = nL) (hown : s.vm.findClass own = some m.cls) (hM : js_Met l B a b tx y code maxL ret As r f) (hP : js_P B a b tx s) (hS : va_S (fun q => B ≤ q) s.heap H locs) (hc : lw_tbl[i1]? = some (.code y code maxL ret)) (hi : lw_tbl[i2]? = some (.initialized y.cls)) (hst : lw_tbl[i3]? = some (.static y)) (hl : lw_tbl[i4]? = some (.methodLink own idx y)) (hnp : am_np y.desc = some n) (hne : y.cls ≠ "java/lang/invoke/MethodHandle" ∧ y.cls ≠ "java/lang/invoke/VarHandle") (hfr : f + 1 ≤ R.frames) (hlo : 8 + (maxL + 11) + 40 * f ≤ R.locals) (hlen : As.length = n) (hsz : la.size = nL) (hrest : (rest.map fun v => v.category).sum ≤ 8) (hfit : cells ≤ R.cells ∧ slots ≤ R.slots) (hdg : decode cc pc = .ok (.invokestatic idx, 3)) (kk : ∀ (H1 : Heap) (locs1 : List Loc), va_S (fun q => B ≤ q) s.heap H1 locs1 → W p l e R s m args below meth c H1 locs1 cells slots Q (F0 m (pc + 3) la (.int r :: rest))) : W p l e R s m args below meth c H locs cells slots Q (F0 m pc la (As.reverse ++ rest)) := by
  have hTW := hP.2.1
  refine am_callX (mc := 0) (ms := 0) (va_runS (Ts := []) (nL := nL) ⟨hx, hb, hml, hown, fun _ h => by cases h⟩ hM ⟨⟨rfl, rfl, hfr, hlo, js_words hTW hc, List.mem_cons_self, hTW.at hc rfl args, hTW.at hi rfl args, hne, am_np_len hnp, hTW.at hl rfl args⟩, hTW.at hst rfl args⟩ (js_pre hP hS) rfl hlen hsz rfl (by show 2 * 0 + _ ≤ 8; omega) hdg hfit) hS (fun _ h => h) (fun st v t h => h.2) (fun v st t H1 locs1 ht hq hS1 => ?_)
  have hv := hq.1
  cases hv
  exact kk H1 locs1 hS1
theorem js_cv (hx : p.tables.exec = Jvm.exec) (hb : c.code = cc) (hml : c.maxLocals = nL) (hown : s.vm.findClass own = some m.cls) (hM : js_Met l B a b tx y code maxL ret (.ref a :: As) r f) (hP : js_P B a b tx s) (hS : va_S (fun q => B ≤ q) s.heap H locs) (hc : lw_tbl[i1]? = some (.code y code maxL ret)) (hi : lw_tbl[i2]? = some (.initialized y.cls)) (hst : lw_tbl[i3]? = some (.instanceMethod y)) (hse : lw_tbl[i5]? = some (.selects "java/lang/String" y y)) (hl : lw_tbl[i4]? = some (.methodLink own idx y)) (hnp : am_np y.desc = some n) (hne : y.cls ≠ "java/lang/invoke/MethodHandle" ∧ y.cls ≠ "java/lang/invoke/VarHandle") (hfr : f + 1 ≤ R.frames) (hlo : 8 + (maxL + 11) + 40 * f ≤ R.locals) (hlen : As.length = n) (hsz : la.size = nL) (hrest : (rest.map fun v => v.category).sum ≤ 8) (hfit : cells ≤ R.cells ∧ slots ≤ R.slots) (hdg : decode cc pc = .ok (.invokevirtual idx, 3)) (kk : ∀ (H1 : Heap) (locs1 : List Loc), va_S (fun q => B ≤ q) s.heap H1 locs1 → W p l e R s m args below meth c H1 locs1 cells slots Q (F0 m (pc + 3) la (.int r :: rest))) : W p l e R s m args below meth c H locs cells slots Q (F0 m pc la (As.reverse ++ .ref a :: rest)) := by
  have hTW := hP.2.1
  have hrecv : ∃ cell : Cell, H[a]? = some cell ∧ cell.vm.isStatics = false ∧ s.vm.findClass "java/lang/String" = some cell.cls := by
    obtain ⟨cell, h1, h2, h3, -⟩ := hP.2.2.2.1.kept hS.2.1
    exact ⟨cell, h1, h2, h3⟩
  have hpre := js_pre (as := .ref a :: As) hP hS
  refine am_callX (mc := 0) (ms := 0) (va_runV (Ts := []) (nL := nL) (C := "java/lang/String") ⟨hx, hb, hml, hown, fun _ h => by cases h⟩ hM ⟨⟨rfl, rfl, hfr, hlo, js_words hTW hc, List.mem_cons_self, hTW.at hc rfl args, hTW.at hi rfl args, hne, am_np_len hnp, hTW.at hl rfl args⟩, hTW.at hst rfl args, hTW.at hse rfl args⟩ ⟨hpre.1, hrecv, hpre.2⟩ rfl hlen hsz rfl (by show 2 * 0 + _ ≤ 8; omega) hdg hfit) hS (fun _ h => h) (fun st v t h => h.2) (fun v st t H1 locs1 ht hq hS1 => ?_)
  have hv := hq.1
  cases hv
  exact kk H1 locs1 hS1
end MJ
section MJ2
variable {l : Launch} {B a b : Nat} {tx : List Int32}
set_option maxRecDepth 100000 in
set_option maxHeartbeats 4000000 in
theorem js_isLatin1 : js_Met l B a b tx yJ0_isLatin1_aae02 cJ0_isLatin1_aae02 1 (some .boolean) [.ref a] 1 0 := by
  refine Met.ofW (cc := cJ0_isLatin1_aae02) (maxL := 1) (ret := some .boolean) (by decide +kernel) rfl ?_
  intro p e s m args below meth c s₁ Bd hml hv
  obtain ⟨rfl, hP⟩ := hv
  have hx := Bd.exec
  have hb := Bd.bytes
  have hlocks := Bd.notSynchronized
  have hown : s.vm.findClass "java/lang/String" = some m.cls := findClass_of_methodNamed Bd.named
  have hTW := hP.2.1
  have hl := lv_entry [Value.ref a] (n := 1) (by decide)
  rw [lg_entry_eq]
  generalize (lg_sl [Value.ref a] ++ List.replicate (1 - (lg_sl [Value.ref a]).length) Slot.unset).toArray = la at hl ⊢
  refine va_gets hx hb hP.2.2.1 va_S.rf hown (hTW.at (i := 556) (by decide +kernel) rfl _) (fun _ h => h) (by decide +kernel) ?_
  refine lv_if_eq hx hb (off := 14) (tgt := 17) (by decide +kernel) rfl (fun q => absurd q (by decide)) (fun _ => ?_)
  refine lv_aload_n hx hb (k := 0) (by decide +kernel) rfl (lv_at hl 0 rfl) ?_
  refine vk_getf hx hb hP.2.2.2.2.1 va_S.rf hown (hTW.at (i := 1779) (by decide +kernel) rfl _) (fun _ h => h) (by decide +kernel) ?_
  refine lv_if_ne hx hb (off := 7) (tgt := 17) (by decide +kernel) rfl (fun q => absurd rfl q) (fun _ => ?_)
  refine lv_iconst hx hb (n := 1) (by decide +kernel) rfl ?_
  refine lv_goto hx hb (off := 4) (tgt := 18) (by decide +kernel) rfl ?_
  exact W.zret (v := 1) (ty := .boolean) hx hb Bd.returns rfl (fun t ht _ => ⟨rfl, va_S.rf.F ht⟩) (fun _ h => by cases h) (by decide +kernel)
end MJ2
