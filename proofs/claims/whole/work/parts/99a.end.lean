/-! THE CLAIM OUT OF ONE WALK OF THE LAW'S BODY. Your part is whole_start (and what it stands on); all else here is the same for every law, but numbers. -/
def R_law : String := "TwoKingsLaw"
def lw_P (b : Addr) (xs : List Int32) (args : Array Value) (s : State) : Prop := args = #[.ref b] ∧ s.IntsAt b xs ∧ xs.length ≤ 3072 ∧ (Jvm.Cond.and given_1 narrow_1).before args s = true
def lw_Q (_ : Array Value) (s : State) (o : Outcome) (t : State) : Prop := o = .returned (some (.int 1)) ∧ Framed s o t [] 600000 7302250
def lw_Z (below : List Frame) (a : Array Value) (s : State) : State → Prop := fun t => ∃ o, t.status = .running ∧ Ended t below o ∧ lw_Q a s o t
/-- the law's own end, with 1 on the stack, nothing written that was there before, its room as the claim has it -/
theorem lw_ret {p : Program} {l : Launch} {e : Env} {s : State} {m : MethodId} {below : List Frame} {meth : Method} {c : Code} {b : Nat} (hx : p.tables.exec = Jvm.exec) (hb : c.code = code) (hr : meth.sig.returnType = ret) (hlocks : meth.locks = false) {pc : Nat} {H : Heap} {ls : Array Slot} (hdg : decode code pc = .ok (.ireturn, 1)) : W p l e room_1 s m #[Value.ref b] below meth c H [] 600000 7302250 (lw_Z below #[Value.ref b] s) (F0 m pc ls [.int 1]) := by
  intro T hT X
  obtain ⟨fs, hret, hrun, hended, hW, hframe⟩ := X.leave (v := some (.int 1)) (hlocks := hlocks) (fun h => by rw [hr] at h; cases h)
  have hmeth' : T.vm.method? m = some meth := X.method'
  refine ⟨T.setFrames fs, ?_, .returned (some (.int 1)), hrun, hended, rfl, ⟨_, rfl⟩, hW, hframe⟩
  jvm_step X.here [X.here.top, hx, hb, hdg, hmeth', hr, ret, narrow_b1]
  (try refine ⟨rfl, ?_⟩); (try refine ⟨rfl, ?_⟩)
  first | (intro acts; rw [hret _ acts rfl rfl rfl]) | rw [hret _ _ rfl rfl rfl]
  exact Steps.refl _
/-- what holds at the law's entry: the machine, the code, the tables' words (any of lw_tbl by 'hts w (by decide +kernel)'), the script of L ints xs at the cell b, what the Statement gives of the start (any of its parts by flat_of_before) -/
def lw_At (p : Program) (s : State) (m : MethodId) (meth : Method) (c : Code) (b L : Nat) (xs : Nat → Int32) : Prop :=
  p.tables.exec = Jvm.exec ∧ c.code = code ∧ meth.sig.returnType = ret ∧ c.maxLocals = 4 ∧ s.vm.findClass R_law = some m.cls ∧ (∀ w ∈ lw_tbl, w.before #[Value.ref b] s = true) ∧ va_X b L xs s s.heap ∧ b < s.heap.size ∧ meth.locks = false ∧ (Jvm.Cond.and given_1 narrow_1).before #[Value.ref b] s = true
set_option maxRecDepth 100000 in
set_option maxHeartbeats 4000000 in
theorem whole_start {p : Program} {e : Env} {s : State} {m : MethodId} {below : List Frame} {meth : Method} {c : Code} (l : Launch) (hflags : l.flags = flags0) {b L : Nat} {xs : Nat → Int32} (hL : L ≤ 3072) (C0 : lw_At p s m meth c b L xs) : W p l e room_1 s m #[Value.ref b] below meth c s.heap [] 0 0 (lw_Z below #[Value.ref b] s) (entryFrame m ([Value.ref b] : List Value).toArray 4) := by
  obtain ⟨hx, hb, hrt, hml, hown, hts, hX, hbl, hlocks, hgv⟩ := C0
  have hTW := st_TW hts
  obtain ⟨D, cA, hK⟩ := st_K hTW
  obtain ⟨t, hCU⟩ := st_CU (L := L) (xs := xs) hts (flat_of_before _ hgv) hX hbl
  have hXX : am_CX p room_1 s m meth c D cA s.heap.size cd_L 4 105 66877 (st_ad s b t) (am_kc L xs) "TwoKingsLaw" code false ret am_y := ⟨hx, hb, hml, hown, fun h => (by cases h), hTW, hK, hCU, Nat.le_refl _, ⟨Nat.le_of_ble_eq_true rfl, Nat.le_of_ble_eq_true rfl⟩, ⟨Nat.le_of_ble_eq_true rfl, Nat.le_of_ble_eq_true rfl⟩, fun q is hq => am_chk_suf _ st_chk q is hq⟩
  have key := lw_run (L := L) (xs := xs) hL (Q := fun o _ => o = some (.int 1)) (P := am_PW p l e room_1 s m #[Value.ref b] below meth c (lw_Z below #[Value.ref b] s) D cA s.heap.size cd_L 4 105 66877 0 (st_ad s b t)) (am_snd (dd := 50) (Y := am_y) hXX am_ioK (fun mid as hp c2 s2 Q2 hm hr => am_run_snd am_ioK yl_238 ml_238 50 mid as hp c2 s2 Q2 hm hr) ⟨Nat.le_of_ble_eq_true rfl, Nat.le_of_ble_eq_true rfl⟩ yl_238 (fun {pc ins rs im wl is ls st hp nc ns ad H locs la} hr hdg o hQ hRT => by
    rcases hRT with ⟨x, rfl, rfl, rfl, -⟩ | ⟨x, -, rfl, -⟩ | ⟨k, C, -, rfl, -⟩ | ⟨-, rfl, -⟩
    · cases hQ
      refine va_forget (fun q hq => hr.2.2.2.1.2.2 q hq) ?_
      refine W.widen (k := 600000) (n := 7302250) (Nat.le_trans hr.1.2.2.2.2.1 (Nat.le_of_ble_eq_true rfl)) (Nat.le_trans hr.1.2.2.2.2.2 (Nat.le_of_ble_eq_true rfl)) ?_
      exact lw_ret hx hb hrt hlocks hdg
    · cases hQ
    · cases hQ
    · cases hQ)) (fun _ => rfl)
  have hl := lv_entry [Value.ref b] (n := 4) (Nat.le_of_ble_eq_true rfl)
  rw [lg_entry_eq]
  generalize (lg_sl [Value.ref b] ++ List.replicate (4 - (lg_sl [Value.ref b]).length) Slot.unset).toArray = la at hl ⊢
  have k := key (st_ad s b t) s.heap [] la ⟨⟨List.suffix_refl _, fun _ => rfl, fun _ _ => rfl, Nat.le_refl _, Nat.zero_le _, Nat.zero_le _⟩, (fun k q hq => (by cases hq)), ⟨fun i j p q hq => (by cases hq), fun k q hq => (by cases hq)⟩, va_S.rf, hl.1, hl.2.1, fun i v hg => ?_, rfl⟩
  · exact k
  · have h := am_ent_at (ad := st_ad s b t) 4 [.ref 1000] 0 i v hg
    rw [Nat.zero_add, show [Value.ref 1000].map (am_v (st_ad s b t)) = [Value.ref b] by show [Value.ref (st_ad s b t 1000)] = _; rw [st_ad0]] at h
    exact hl.2.2 _ h
