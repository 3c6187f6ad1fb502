/-! ===== calls ===== -/
def am_rm (d mc ms : Nat) : Room := { frames := d + 8, cells := mc, slots := ms, locals := 60 * d + 400 }
def am_Pc (D : va_G) (cA : Nat → ClassId) (B : Nat) (K : am_K) (ad : Nat → Nat) (as : List Value) (hp : am_H) : Array Value → State → Prop := va_Pc (as.map (am_v ad)) (fun U => B ≤ U.heap.size ∧ am_TW U ∧ va_K D vwCl (am_tys cA) U ∧ am_CU K ad B U U.heap ∧ va_P D vwCl (am_cw cA ad hp) U.heap ∧ va_D (fun a => B ≤ a) (am_cw cA ad hp))
def am_Qc (D : va_G) (cA : Nat → ClassId) (B : Nat) (ad : Nat → Nat) (hp : am_H) (mc : Nat) (Q : Option Value → am_H → Prop) : Array Value → State → Outcome → State → Prop := fun _ st oc t => (∃ (o : Option Value) (h2 : am_H) (ad2 : Nat → Nat), oc = .returned (o.map (am_v ad2)) ∧ Q o h2 ∧ (mc = 0 → ad2 = ad) ∧ (∀ k, (k < hp.1.length ∨ 1000 ≤ k) → ad2 k = ad k) ∧ hp.1.length ≤ h2.1.length ∧ va_P D vwCl (am_cw cA ad2 h2) t.heap ∧ va_D (fun a => B ≤ a) (am_cw cA ad2 h2)) ∧ va_F (fun a => B ≤ a) st t
def am_Met (l : Launch) (Y : am_Y) (D : va_G) (cA : Nat → ClassId) (B : Nat) (K : am_K) (mid : Nat) (as : List Value) (hp : am_H) (mc ms : Nat) (Q : Option Value → am_H → Prop) (d : Nat) : Prop :=
  ∀ ad : Nat → Nat, Met l (Y mid).1 [.code (Y mid).1 (Y mid).2.1 (Y mid).2.2.1 (Y mid).2.2.2.1] (am_rm d mc ms) (am_Pc D cA B K ad as hp) (am_Qc D cA B ad hp mc Q) mc ms (fun a => B ≤ a)
/-- a method's row is right -/
def am_yok (Y : am_Y) (mid : Nat) : Prop := lw_tbl[(Y mid).2.2.2.2.1]? = some (.code (Y mid).1 (Y mid).2.1 (Y mid).2.2.1 (Y mid).2.2.2.1) ∧ lw_tbl[(Y mid).2.2.2.2.2.1]? = some (.initialized (Y mid).1.cls) ∧ (Y mid).2.2.1 ≤ 41 ∧ ((Y mid).1.cls ≠ "java/lang/invoke/MethodHandle" ∧ (Y mid).1.cls ≠ "java/lang/invoke/VarHandle") ∧ plainName (Y mid).1.cls = true
theorem am_CU.warm {K : am_K} {ad : Nat → Nat} {B : Nat} {s U : State} {H : Heap} (hW : s.WarmedH U.vm) (hU : U.heap = H) (hB : B ≤ s.heap.size) (hk : ∀ q : Nat, q < s.heap.size → ¬ B ≤ q → H[q]? = s.heap[q]?) (h : am_CU K ad B s s.heap) : am_CU K ad B U U.heap := by
  refine ⟨fun k n f hK => ?_, ?_, fun i o j tx hi => (h.2.2.1 i o j tx hi).warm hW, ?_, fun k tx hk2 => ?_⟩
  · obtain ⟨h1, h2, h3⟩ := h.1 k n f hK
    refine ⟨h1, (h2.kept ?_).moved hW.alike, h3⟩
    rw [hU]
    exact hk _ (Nat.lt_of_lt_of_le h3 hB) (Nat.not_le.mpr h3)
  · refine (h.2.1.kept (fun a h1 h2 => ?_)).moved hW.alike
    rw [hU]
    exact hk a h1 h2
  · refine (h.2.2.2.1.kept (fun a h1 h2 => ?_)).moved hW.alike
    rw [hU]
    exact hk a h1 h2
  · have hq : ∀ a : Nat, a < s.heap.size → ¬ B ≤ a → U.heap[a]? = s.heap[a]? := fun a h1 h2 => by
      rw [hU]
      exact hk a h1 h2
    obtain ⟨b, g1, g2, g3, g4⟩ := h.2.2.2.2 k tx hk2
    exact ⟨b, (g1.kept hq).moved hW.alike, (g2.kept hq).moved hW.alike, (g3.kept hq).moved hW.alike, (g4.kept hq).moved hW.alike⟩
theorem am_TXk : ∀ q ∈ am_TX, 1000 ≤ q.1 := by decide
theorem am_CU.same {K : am_K} {ad : Nat → Nat} {B : Nat} {s U : State} (hv : U.vm = s.vm) (hh : U.heap = s.heap) (hB : B ≤ s.heap.size) (h : am_CU K ad B s s.heap) : am_CU K ad B U U.heap := by
  refine am_CU.warm (by rw [hv]; exact State.WarmedH.refl s) rfl hB (fun q _ _ => by rw [hh]) h
theorem am_CU.ad {K : am_K} {ad ad2 : Nat → Nat} {B : Nat} {U : State} {H : Heap} (he : ∀ k, 1000 ≤ k → ad2 k = ad k) (h : am_CU K ad B U H) : am_CU K ad2 B U H := by
  refine ⟨fun k n f hK => ?_, ?_, fun i o j tx hi => ?_, h.2.2.2.1, fun k tx hk => ?_⟩
  · obtain ⟨h1, h2, h3⟩ := h.1 k n f hK
    rw [he k h1]
    exact ⟨h1, h2, h3⟩
  · rw [he 1001 (by decide)]
    exact h.2.1
  · rw [he (am_str i) (by unfold am_str; omega)]
    exact h.2.2.1 i o j tx hi
  · rw [he k (am_TXk _ hk)]
    exact h.2.2.2.2 k tx hk
theorem am_Pc.blind {D : va_G} {cA : Nat → ClassId} {B : Nat} {K : am_K} {ad : Nat → Nat} {as : List Value} {hp : am_H} : FrameBlind (am_Pc D cA B K ad as hp) := by
  intro a U g mk h
  obtain ⟨h0, h1, h2, h3, h4, h5, h6⟩ := h
  exact ⟨h0, h1, am_TW.warm (s := U) (U := U.calling g mk a) (State.WarmedH.refl U) h2, va_K.moved (u := U) (U := U.calling g mk a) (Vm.Alike.refl U.vm) h3, am_CU.same (s := U) (U := U.calling g mk a) rfl rfl h1 h4, h5, h6⟩
theorem am_Pc.pre {D : va_G} {cA : Nat → ClassId} {B : Nat} {K : am_K} {ad : Nat → Nat} {as : List Value} {hp : am_H} {s : State} {H : Heap} {locs : List Loc} (hB : B ≤ s.heap.size) (hTW : am_TW s) (hK : va_K D vwCl (am_tys cA) s) (hC : am_CU K ad B s s.heap) (hP : va_P D vwCl (am_cw cA ad hp) H) (hD : va_D (fun a => B ≤ a) (am_cw cA ad hp)) (hS : va_S (fun a => B ≤ a) s.heap H locs) : PreS s H (am_Pc D cA B K ad as hp) (as.map (am_v ad)) := by
  refine ⟨am_Pc.blind, fun U hU hW => ⟨rfl, ?_, hTW.warm hW, va_K.moved hW.alike hK, hC.warm hW hU hB (fun q h1 h2 => hS.2.1 q h1 h2), by rw [hU]; exact hP, hD⟩⟩
  rw [hU]
  exact Nat.le_trans hB hS.1
theorem am_callX {p : Program} {l : Launch} {e : Env} {R : Room} {s : State} {m : MethodId} {args : Array Value} {below : List Frame} {meth : Method} {c : Code} {H : Heap} {locs : List Loc} {cells slots mc ms : Nat} {Q : State → Prop} {pc : Nat} {ls : Array Slot} {rest st0 : List Value} {A0 : Nat → Prop} {H0 : Heap} {Qa : State → Outcome → State → Prop} {free : Addr → Prop} (hr : va_Run p l e R s m args below meth c H locs cells slots mc ms (F0 m pc ls st0) rest Qa free) (hS : va_S A0 H0 H locs) (hf : ∀ q, free q → A0 q) (hQ : ∀ (st : State) (v : Option Value) (t : State), Qa st (.returned v) t → va_F A0 st t)
    (kk : ∀ (v : Option Value) (st t : State) (H1 : Heap) (locs1 : List Loc), t.heap = H1 → Qa st (.returned v) t → va_S A0 H0 H1 locs1 → W p l e R s m args below meth c H1 locs1 (cells + mc) (slots + ms) Q (F0 m (pc + 3) ls (v.toList ++ rest))) : W p l e R s m args below meth c H locs cells slots Q (F0 m pc ls st0) := by
  intro T hT X
  obtain ⟨v, st₀, t, T', L, h0, X', hL, e1, e2, hq, st⟩ := hr T hT X
  obtain ⟨hz, hk⟩ := hQ _ _ _ hq
  rw [h0] at hz hk
  obtain ⟨t2, a1, b1⟩ := kk v st₀ t T'.heap (locs ++ L) e1.symm hq
    ⟨Nat.le_trans hS.1 (by rw [e1]; exact hz), fun q h1 h2 => by rw [e1, hk q (Nat.lt_of_lt_of_le h1 hS.1) h2]; exact hS.2.1 q h1 h2, fun q hq => by
      rcases List.mem_append.mp hq with h | h
      · exact hS.2.2 q h
      · exact hf _ (hL q h)⟩ T' rfl X'
  exact ⟨t2, st t2 a1, b1⟩
theorem am_pop_eq : ∀ {n : Nat} {acc st as r : List Value}, am_pop n acc st = some (as, r) → ∃ bs : List Value, bs.length = n ∧ st = bs.reverse ++ r ∧ as = bs ++ acc
  | 0, acc, st, as, r, h => by
    have h2 : some (acc, st) = some (as, r) := h
    cases h2
    exact ⟨[], rfl, rfl, rfl⟩
  | n + 1, acc, [], as, r, h => by
    simp [am_pop] at h
  | n + 1, acc, v :: st, as, r, h => by
    obtain ⟨bs, h1, h2, h3⟩ := am_pop_eq (n := n) (acc := v :: acc) (st := st) h
    exact ⟨bs ++ [v], by simp [h1], by simp [h2], by simp [h3]⟩
theorem am_ws_eq (ad : Nat → Nat) : ∀ r : List Value, ((r.map (am_v ad)).map fun v => v.category).sum = am_ws r
  | [] => rfl
  | v :: r => by
    simp only [List.map_cons, List.sum_cons, am_v_cat, am_ws]
    rw [am_ws_eq ad r]
theorem am_rv_eq {ad ad2 : Nat → Nat} {n : Nat} (he : ∀ k, (k < n ∨ 1000 ≤ k) → ad2 k = ad k) {v : Value} (h : am_rv n v = true) : am_v ad2 v = am_v ad v := by
  cases v <;> try rfl
  rename_i k
  rcases (Bool.or_eq_true _ _).mp h with h | h
  · exact congrArg Value.ref (he k (Or.inl (Nat.le_of_ble_eq_true h)))
  · exact congrArg Value.ref (he k (Or.inr (Nat.le_of_ble_eq_true h)))
theorem am_rs_eq {ad ad2 : Nat → Nat} {n : Nat} (he : ∀ k, (k < n ∨ 1000 ≤ k) → ad2 k = ad k) : ∀ {r : List Value}, am_rs n r = true → r.map (am_v ad2) = r.map (am_v ad)
  | [], _ => rfl
  | v :: r, h => by
    obtain ⟨h1, h2⟩ := (Bool.and_eq_true _ _).mp h
    rw [List.map_cons, List.map_cons, am_rv_eq he h1, am_rs_eq he h2]
theorem am_rl_eq {n : Nat} : ∀ {l : am_L} {i : Nat} {v : Value}, am_rl n l = true → am_get l i = some v → am_rv n v = true
  | [], _, _, _, h => by simp [am_get] at h
  | none :: l, 0, v, _, h => by cases h
  | some w :: l, 0, v, h, hg => by
    cases hg
    exact ((Bool.and_eq_true _ _).mp h).1
  | none :: l, i + 1, v, h, hg => am_rl_eq (l := l) h hg
  | some w :: l, i + 1, v, h, hg => am_rl_eq (l := l) ((Bool.and_eq_true _ _).mp h).2 hg
theorem am_LV.ad {ad ad2 : Nat → Nat} {n : Nat} (he : ∀ k, (k < n ∨ 1000 ≤ k) → ad2 k = ad k) {ls : am_L} {la : Array Slot} {nL : Nat} (hl : am_rl n ls = true) (h : am_LV ad ls la nL) : am_LV ad2 ls la nL := ⟨h.1, h.2.1, fun i v hg => by rw [am_rv_eq he (am_rl_eq hl hg)]; exact h.get hg, h.2.2.2⟩
theorem am_push_eq (ad : Nat → Nat) (o : Option Value) (r : List Value) : (am_push o r).map (am_v ad) = (o.map (am_v ad)).toList ++ r.map (am_v ad) := by cases o <;> rfl
theorem am_prims : Jvm.Cond.instanceMethod Lib.objectInit ∈ lw_tbl ∧ Jvm.Cond.code Lib.objectInit ⟨#[0xb1]⟩ 1 none ∈ lw_tbl ∧ Jvm.Cond.initialized "java/lang/Math" ∈ lw_tbl ∧ Jvm.Cond.static Lib.Math.max.name ∈ lw_tbl ∧ Jvm.Cond.static Lib.Math.min.name ∈ lw_tbl ∧ Jvm.Cond.static Lib.Math.abs.name ∈ lw_tbl ∧ Jvm.Cond.code Lib.Math.max.name Lib.Math.max.code 2 (some .int) ∈ lw_tbl ∧ Jvm.Cond.code Lib.Math.min.name Lib.Math.min.code 2 (some .int) ∈ lw_tbl ∧ Jvm.Cond.code Lib.Math.abs.name Lib.Math.abs.code 1 (some .int) ∈ lw_tbl ∧ Jvm.Cond.native arraycopyName ∈ lw_tbl ∧ Jvm.Cond.static arraycopyName ∈ lw_tbl ∧ Jvm.Cond.initialized "java/lang/System" ∈ lw_tbl := by
  have h := am_primsOk_t
  unfold am_primsOk at h
  simpa only [Bool.and_eq_true, decide_eq_true_eq] using h
/-- the texts' indexOf: what it must do on the machine -/
def am_IOK (l : Launch) (B : Nat) (K : am_K) (I : am_I) : Prop := ∀ {p : Program} {e : Env} {R : Room} {s : State} {m : MethodId} {args : Array Value} {below : List Frame} {meth : Method} {c : Code} {H : Heap} {locs : List Loc} {cells slots : Nat} {Q : State → Prop} {cc : ByteArray} {pc : Nat} {la : Array Slot} {rest : List Value} {ad : Nat → Nat} {k : Nat} {x : Int32} {idx : Nat} {own : String} {f : Int32 → Int32}, p.tables.exec = Jvm.exec → c.code = cc → c.maxLocals = la.size → s.vm.findClass own = some m.cls → am_TW s → am_CU K ad B s s.heap → B ≤ s.heap.size → va_S (fun a => B ≤ a) s.heap H locs → 8 ≤ R.frames → 400 ≤ R.locals → cells ≤ R.cells → slots ≤ R.slots → (Jvm.Cond.methodLink own idx (am_primN 5)).before args s = true → (0 ≤ x ∧ x < 65536) → I k = some f → (rest.map fun v => v.category).sum ≤ 8 → decode cc pc = .ok (.invokevirtual idx, 3) → W p l e R s m args below meth c H locs cells slots Q (F0 m (pc + 3) la (.int (f x) :: rest)) → W p l e R s m args below meth c H locs cells slots Q (F0 m pc la (.int x :: .ref (ad k) :: rest))
theorem am_setC {cA : Nat → ClassId} {ad : Nat → Nat} {hp : am_H} {k k2 n1 sp dp n : Nat} {q : List (Option Nat)} (hat : am_at hp.1 k2 = some (100, n1, q)) : (am_cw cA ad hp).set k2 (ad k2, .inl (cA 100, n1, .inl (va_cpy (hp.2.1 k) (hp.2.1 k2) sp dp n))) = am_cw cA ad (hp.1, am_cpy hp.2.1 k k2 sp dp n, hp.2.2) := am_cw_set hat (fun i => by
    by_cases e : i = k2
    · rw [if_pos e, e, ← am_at_eq]; exact hat
    · rw [if_neg e]) (fun i y hi => am_cell_v y (by
    funext b
    dsimp only
    unfold am_cpy
    rw [am_bne hi]
    rfl) rfl) (by
    rw [am_cell_i (Or.inl rfl)]
    dsimp only
    rw [show am_cpy hp.2.1 k k2 sp dp n k2 = va_cpy (hp.2.1 k) (hp.2.1 k2) sp dp n by
      funext b
      unfold am_cpy va_cpy
      rw [am_beq]
      by_cases h1 : dp ≤ b
      · by_cases h2 : b < dp + n
        · rw [if_pos ⟨h1, h2⟩, show (true && (Nat.ble dp b && Nat.blt b (dp + n))) = true by rw [Nat.ble_eq_true_of_le h1, show Nat.blt b (dp + n) = true from Nat.ble_eq_true_of_le h2]; rfl]
        · rw [if_neg (fun q => h2 q.2), show (true && (Nat.ble dp b && Nat.blt b (dp + n))) = false by
            cases hh : Nat.blt b (dp + n) with
            | false => simp
            | true => exact absurd (Nat.le_of_ble_eq_true hh) h2]
      · rw [if_neg (fun q => h1 q.1), show (true && (Nat.ble dp b && Nat.blt b (dp + n))) = false by
          cases hh : Nat.ble dp b with
          | false => rfl
          | true => exact absurd (Nat.le_of_ble_eq_true hh) h1]])
/-- what every call asks but its link -/
theorem am_cw0 {Y : am_Y} {mid : Nat} (hy : am_yok Y mid) {R : Room} {s : State} (args : Array Value) (hTW : am_TW s) {d mc ms : Nat} (hR : d + 9 ≤ R.frames ∧ 60 * d + 460 ≤ R.locals) :
    ((am_rm d mc ms).cells = mc ∧ (am_rm d mc ms).slots = ms ∧ (am_rm d mc ms).frames + 1 ≤ R.frames ∧ 8 + ((Y mid).2.2.1 + 11) + (am_rm d mc ms).locals ≤ R.locals ∧ (∀ w ∈ [Jvm.Cond.code (Y mid).1 (Y mid).2.1 (Y mid).2.2.1 (Y mid).2.2.2.1], ∀ (a' : Array Value) (U : State), s.WarmedH U.vm → w.before a' U = true) ∧ Jvm.Cond.code (Y mid).1 (Y mid).2.1 (Y mid).2.2.1 (Y mid).2.2.2.1 ∈ [Jvm.Cond.code (Y mid).1 (Y mid).2.1 (Y mid).2.2.1 (Y mid).2.2.2.1]) ∧ (Jvm.Cond.code (Y mid).1 (Y mid).2.1 (Y mid).2.2.1 (Y mid).2.2.2.1).before args s = true ∧ (Jvm.Cond.initialized (Y mid).1.cls).before args s = true ∧ ((Y mid).1.cls ≠ "java/lang/invoke/MethodHandle" ∧ (Y mid).1.cls ≠ "java/lang/invoke/VarHandle") := by
  obtain ⟨h1, h2, h3, h4, -⟩ := hy
  refine ⟨⟨rfl, rfl, ?_, ?_, ?_, List.mem_cons_self⟩, hTW.at h1 rfl args, hTW.at h2 rfl args, h4⟩
  · show d + 8 + 1 ≤ R.frames
    omega
  · show 8 + ((Y mid).2.2.1 + 11) + (60 * d + 400) ≤ R.locals
    omega
  · intro w hw a' U hW
    rw [List.mem_singleton.mp hw]
    exact (hTW.warm hW).at h1 rfl a'
theorem am_np_len {d : String} {n : Nat} (h : am_np d = some n) : ∀ sig, parseMethodDescriptor d = some sig → n = sig.parameters.length := by
  intro sig hs
  unfold am_np at h
  rw [hs] at h
  exact (Option.some.inj h).symm
/-- behind a call -/
theorem am_after {p : Program} {l : Launch} {e : Env} {R : Room} {s : State} {m : MethodId} {args : Array Value} {below : List Frame} {meth : Method} {c : Code} {Qf : State → Prop} {D : va_G} {cA : Nat → ClassId} {B : Nat} {cd : List am_E} {nL mc ms n0 : Nat} {ad0 : Nat → Nat} {q : am_E} {is : List am_E} {ls : am_L} {st r : List Value} {hp : am_H} {nc ns c2 s2 : Nat} {ad : Nat → Nat} {H : Heap} {locs : List Loc} {la : Array Slot} {pc : Nat} {st0 : List Value} {a : Array Value} (hr : am_Rel s D cA B cd nL mc ms n0 ad0 (q :: is, ls, st, hp, nc, ns) ad H locs la) (hpc : am_pcl is = pc + 3) (hc : nc + c2 ≤ mc ∧ ns + s2 ≤ ms) (hg : c2 = 0 ∨ (am_rl hp.1.length ls = true ∧ am_rs hp.1.length r = true)) {Q2 : Option Value → am_H → Prop} (hQ2 : ∀ (o : Option Value) (h2 : am_H), Q2 o h2 → am_PW p l e R s m args below meth c Qf D cA B cd nL mc ms n0 ad0 (is, ls, am_push o r, h2, nc + c2, ns + s2))
    (hv : va_Run p l e R s m args below meth c H locs nc ns c2 s2 (F0 m pc la st0) (r.map (am_v ad)) (am_Qc D cA B ad hp c2 Q2 a) (fun a => B ≤ a)) : W p l e R s m args below meth c H locs nc ns Qf (F0 m pc la st0) := by
  refine am_callX hv hr.2.2.2.1 (fun _ h => h) (fun st v t h => h.2) (fun v st9 t H1 locs1 ht hq hS => ?_)
  obtain ⟨⟨o, h2, ad2, ho, hQ, he0, he, hl, hP, hD⟩, -⟩ := hq
  cases ho
  rw [ht] at hP
  have hrest : r.map (am_v ad2) = r.map (am_v ad) := by
    rcases hg with h | h
    · rw [he0 h]
    · exact am_rs_eq he h.2
  have hLV : am_LV ad2 ls la nL := by
    rcases hg with h | h
    · rw [he0 h]; exact hr.2.2.2.2
    · exact am_LV.ad he h.1 hr.2.2.2.2
  have k := hQ2 o h2 hQ ad2 H1 locs1 la ⟨⟨(List.suffix_cons _ _).trans hr.1.1, fun h0 => ?_, fun k hk => ?_, Nat.le_trans hr.1.2.2.2.1 hl, hc.1, hc.2⟩, hP, hD, hS, hLV⟩
  · dsimp only at k
    rw [hpc, am_push_eq, hrest] at k
    exact k
  · rw [he0 (by have := hc.1; omega)]
    exact hr.1.2.1 h0
  · have hn : n0 ≤ hp.1.length := hr.1.2.2.2.1
    rw [he k (hk.elim (fun h => Or.inl (Nat.lt_of_lt_of_le h hn)) Or.inr)]
    exact hr.1.2.2.1 k hk
set_option maxHeartbeats 1000000 in
theorem am_s_invokestatic {p : Program} {l : Launch} {e : Env} {R : Room} {s : State} {m : MethodId} {args : Array Value} {below : List Frame} {meth : Method} {c : Code} {Qf : State → Prop} {D : va_G} {cA : Nat → ClassId} {B : Nat} {cd : List am_E} {nL mc ms n0 : Nat} {ad0 : Nat → Nat} {K : am_K} {I : am_I} {Tc : am_T} {Q : Option Value → am_H → Prop} {own : String} {bytes : ByteArray} {isI : Bool} {ret : Option FieldType} {Y : am_Y} (X : am_CX p R s m meth c D cA B cd nL mc ms ad0 K own bytes isI ret Y) {pc : Nat} {i : Nat} {dd : Nat} {rs : List Nat} {im : Int32} {wl : List Nat} {is : List am_E} {ls : am_L} {st : List Value} {hp : am_H} {nc ns : Nat} (hI : am_IOK l B K I) (hTc : ∀ (mid : Nat) (as : List Value) (hp : am_H) (c2 s2 : Nat) (Q2 : Option Value → am_H → Prop), mid < am_N → Tc mid as hp c2 s2 Q2 → am_Met l Y D cA B K mid as hp c2 s2 Q2 dd) (hRd : dd + 9 ≤ R.frames ∧ 60 * dd + 460 ≤ R.locals) (hY : ∀ mid, mid < am_N → am_yok Y mid) (h : am_step K I Tc cd mc ms Q (am_PW p l e R s m args below meth c Qf D cA B cd nL mc ms n0 ad0) ((pc, .invokestatic i, rs, im, wl) :: is, ls, st, hp, nc, ns)) : (am_PW p l e R s m args below meth c Qf D cA B cd nL mc ms n0 ad0) ((pc, .invokestatic i, rs, im, wl) :: is, ls, st, hp, nc, ns) := by
  intro ad H locs la hr
  obtain ⟨hx, hb, hml, hown, hisI, hTW, hK, hCU, hBs, hRc, hRf, hV⟩ := X
  have hok := hV _ _ hr.1.1
  obtain ⟨hd, hv⟩ := (Bool.and_eq_true _ _).mp hok
  obtain ⟨hdg, hpc⟩ := am_d_spec hd
  dsimp only [am_step] at h
  split at h
  · rename_i n mid
    split at h
    · rename_i as r hpop
      split at h
      · rename_i hw
        have hv : am_sok Y own i wl n mid = true := hv
        unfold am_sok at hv
        split at hv
        · rename_i wi
          obtain ⟨h1, h2⟩ := (Bool.and_eq_true _ _).mp hv
          obtain ⟨h2, h3⟩ := (Bool.and_eq_true _ _).mp h2
          obtain ⟨hnp, hmid⟩ := of_decide_eq_true h1
          have hst := of_decide_eq_true h2
          have hM := hTc mid as hp 0 0 _ hmid h ad
          obtain ⟨c0, c1, c3, c4⟩ := am_cw0 (hY mid hmid) (R := R) args hTW (mc := 0) (ms := 0) hRd
          obtain ⟨bs, e1, e2, e3⟩ := am_pop_eq hpop
          rw [List.append_nil] at e3
          subst e3
          have hpre := am_Pc.pre (K := K) (as := as) hBs hTW hK (hCU.ad (fun k hk => hr.1.2.2.1 k (Or.inr hk))) hr.2.1 hr.2.2.1 hr.2.2.2.1
          refine am_after (r := r) (c2 := 0) (s2 := 0) hr hpc hr.1.2.2.2.2 (Or.inl rfl) (Q2 := fun o h2 => am_PW p l e R s m args below meth c Qf D cA B cd nL mc ms n0 ad0 (is, ls, am_push o r, h2, nc, ns)) (fun o h2 hq => hq) (a := (as.map (am_v ad)).toArray) ?_
          have hfit : nc + 0 ≤ R.cells ∧ ns + 0 ≤ R.slots := ⟨Nat.le_trans hr.1.2.2.2.2.1 hRc.1, Nat.le_trans hr.1.2.2.2.2.2 hRc.2⟩
          have hstk : List.map (am_v ad) st = (as.map (am_v ad)).reverse ++ r.map (am_v ad) := by rw [e2, List.map_append, List.map_reverse]
          have hWm : 2 * (F0 m pc la (List.map (am_v ad) st)).monitorRoom + ((r.map (am_v ad)).map fun v => v.category).sum ≤ 8 := by
            have hw9 := Nat.le_of_ble_eq_true hw
            rw [am_ws_eq]
            show 2 * 0 + am_ws r ≤ 8
            omega
          rcases (Bool.or_eq_true _ _).mp h3 with h4 | h4
          · exact va_runS (Ts := []) ⟨hx, hb, hml, hown, fun _ h => by cases h⟩ hM ⟨⟨c0.1, c0.2.1, c0.2.2.1, c0.2.2.2.1, c0.2.2.2.2.1, c0.2.2.2.2.2, c1, c3, c4, am_np_len hnp, hTW.at (of_decide_eq_true h4) rfl args⟩, hTW.at hst rfl args⟩ hpre rfl (by rw [List.length_map]; exact e1) hr.2.2.2.2.1 hstk hWm hdg hfit
          · exact va_runSN (Ts := []) ⟨hx, hb, hml, hown, fun _ h => by cases h⟩ hM ⟨⟨c0, c1, c3, c4, am_np_len hnp, hTW.at (of_decide_eq_true h4) rfl args⟩, hTW.at hst rfl args, trivial⟩ hpre rfl (by rw [List.length_map]; exact e1) hr.2.2.2.2.1 hstk hWm hdg hfit
        · cases hv
      · exact h.elim
    · exact h.elim
  · rename_i pk
    have hv : (Nat.ble 1 pk && (Nat.ble pk 4 && am_pl own i pk wl)) = true := hv
    obtain ⟨h1, h2⟩ := (Bool.and_eq_true _ _).mp hv
    obtain ⟨h2, h3⟩ := (Bool.and_eq_true _ _).mp h2
    have p1 := Nat.le_of_ble_eq_true h1
    have p2 := Nat.le_of_ble_eq_true h2
    split at h
    · rename_i hw
      have hww := Nat.le_of_ble_eq_true hw
      unfold am_pl at h3
      split at h3
      · rename_i wi
        have hl := of_decide_eq_true h3
        have hcel : nc ≤ R.cells := Nat.le_trans hr.1.2.2.2.2.1 hRc.1
        have hslo : ns ≤ R.slots := Nat.le_trans hr.1.2.2.2.2.2 hRc.2
        have hmls : c.maxLocals = la.size := by rw [hml]; exact hr.2.2.2.2.1.symm
        have hpk : pk = 1 ∨ pk = 2 ∨ pk = 3 ∨ pk = 4 := by omega
        rcases hpk with rfl | rfl | rfl | rfl
        · simp only [am_prim] at h
          split at h
          · rename_i y x r
            have k := h ad H locs la hr.tl
            dsimp only at k
            rw [hpc] at k
            exact va_mmax hx hb hmls hown (hTW.at hl rfl args) (hTW _ am_prims.2.2.2.1 rfl args) (hTW _ am_prims.2.2.1 rfl args) (hTW _ am_prims.2.2.2.2.2.2.1 rfl args) (by omega) (by rw [am_ws_eq]; simp only [am_ws] at hww; omega) hcel hslo hdg k
          · exact h.elim
        · simp only [am_prim] at h
          split at h
          · rename_i y x r
            have k := h ad H locs la hr.tl
            dsimp only at k
            rw [hpc] at k
            exact va_mmin hx hb hmls hown (hTW.at hl rfl args) (hTW _ am_prims.2.2.2.2.1 rfl args) (hTW _ am_prims.2.2.1 rfl args) (hTW _ am_prims.2.2.2.2.2.2.2.1 rfl args) (by omega) (by rw [am_ws_eq]; simp only [am_ws] at hww; omega) hcel hslo hdg k
          · exact h.elim
        · simp only [am_prim] at h
          split at h
          · rename_i x r
            have k := h ad H locs la hr.tl
            dsimp only at k
            rw [hpc] at k
            exact va_mabs hx hb hmls hown (hTW.at hl rfl args) (hTW _ am_prims.2.2.2.2.2.1 rfl args) (hTW _ am_prims.2.2.1 rfl args) (hTW _ am_prims.2.2.2.2.2.2.2.2.1 rfl args) (by omega) (by rw [am_ws_eq]; simp only [am_ws] at hww; omega) hcel hslo hdg k
          · exact h.elim
        · simp only [am_prim] at h
          split at h
          · rename_i n dp k2 sp k r
            split at h
            · rename_i n0' q0 hat
              split at h
              · rename_i n1' q1 hat2
                obtain ⟨⟨a1, a2, a3, a4, a5⟩, h⟩ := h
                refine va_copyi hx hb hmls hown (hTW.at hl rfl args) (hTW _ am_prims.2.2.2.2.2.2.2.2.2.1 rfl args) (hTW _ am_prims.2.2.2.2.2.2.2.2.2.2.1 rfl args) (hTW _ am_prims.2.2.2.2.2.2.2.2.2.2.2 rfl args) hK hr.2.1 hr.2.2.1 hr.2.2.2.1 k k2 0 0 (ty := .int) (am_cw_at (cA := cA) (ad := ad) hat) (am_cw_at (cA := cA) (ad := ad) hat2) rfl rfl rfl a1 a2 a3 a4 a5 (fun _ _ => rfl) (by omega) (by rw [am_ws_eq]; simp only [am_ws] at hww; have : nativeFrameWords "java/lang/System" "arraycopy" 5 ≤ 100 := (by decide +kernel); omega) hdg (fun H1 locs1 hP hD hS => ?_)
                rw [am_setC hat2] at hP hD
                have k := h ad H1 locs1 la (hr.wr rfl hP hD hS)
                dsimp only at k
                rw [hpc] at k
                exact k
              · exact h.elim
            · exact h.elim
          · exact h.elim
      · cases h3
    · exact h.elim
  · exact h.elim
set_option maxHeartbeats 1000000 in
theorem am_s_invokespecial {p : Program} {l : Launch} {e : Env} {R : Room} {s : State} {m : MethodId} {args : Array Value} {below : List Frame} {meth : Method} {c : Code} {Qf : State → Prop} {D : va_G} {cA : Nat → ClassId} {B : Nat} {cd : List am_E} {nL mc ms n0 : Nat} {ad0 : Nat → Nat} {K : am_K} {I : am_I} {Tc : am_T} {Q : Option Value → am_H → Prop} {own : String} {bytes : ByteArray} {isI : Bool} {ret : Option FieldType} {Y : am_Y} (X : am_CX p R s m meth c D cA B cd nL mc ms ad0 K own bytes isI ret Y) {pc : Nat} {i : Nat} {dd : Nat} {rs : List Nat} {im : Int32} {wl : List Nat} {is : List am_E} {ls : am_L} {st : List Value} {hp : am_H} {nc ns : Nat} (hI : am_IOK l B K I) (hTc : ∀ (mid : Nat) (as : List Value) (hp : am_H) (c2 s2 : Nat) (Q2 : Option Value → am_H → Prop), mid < am_N → Tc mid as hp c2 s2 Q2 → am_Met l Y D cA B K mid as hp c2 s2 Q2 dd) (hRd : dd + 9 ≤ R.frames ∧ 60 * dd + 460 ≤ R.locals) (hY : ∀ mid, mid < am_N → am_yok Y mid) (h : am_step K I Tc cd mc ms Q (am_PW p l e R s m args below meth c Qf D cA B cd nL mc ms n0 ad0) ((pc, .invokespecial i, rs, im, wl) :: is, ls, st, hp, nc, ns)) : (am_PW p l e R s m args below meth c Qf D cA B cd nL mc ms n0 ad0) ((pc, .invokespecial i, rs, im, wl) :: is, ls, st, hp, nc, ns) := by
  intro ad H locs la hr
  obtain ⟨hx, hb, hml, hown, hisI, hTW, hK, hCU, hBs, hRc, hRf, hV⟩ := X
  have hok := hV _ _ hr.1.1
  obtain ⟨hd, hv⟩ := (Bool.and_eq_true _ _).mp hok
  obtain ⟨hdg, hpc⟩ := am_d_spec hd
  dsimp only [am_step] at h
  split at h
  · rename_i n mid c2 s2
    split at h
    · rename_i k as r hpop
      split at h
      · rename_i hw
        obtain ⟨hw, hw2⟩ := (Bool.and_eq_true _ _).mp hw
        obtain ⟨hw2, hw3⟩ := (Bool.and_eq_true _ _).mp hw2
        have hv : am_iok Y own i wl n mid = true := hv
        unfold am_iok at hv
        split at hv
        · rename_i wi
          obtain ⟨h1, h2⟩ := (Bool.and_eq_true _ _).mp hv
          obtain ⟨h2, h3⟩ := (Bool.and_eq_true _ _).mp h2
          obtain ⟨h3, h5⟩ := (Bool.and_eq_true _ _).mp h3
          obtain ⟨hnp, hmid⟩ := of_decide_eq_true h1
          obtain ⟨hini, hret0, hn1⟩ := of_decide_eq_true h2
          have hst := of_decide_eq_true h3
          obtain ⟨hcc, hT⟩ := h
          have hM := hTc mid (.ref k :: as) hp c2 s2 _ hmid hT ad
          obtain ⟨c0, c1, c3, c4⟩ := am_cw0 (hY mid hmid) (R := R) args hTW (mc := c2) (ms := s2) hRd
          obtain ⟨bs, e1, e2, e3⟩ := am_pop_eq hpop
          rw [List.append_nil] at e3
          subst e3
          have hpre := am_Pc.pre (K := K) (as := .ref k :: as) hBs hTW hK (hCU.ad (fun k hk => hr.1.2.2.1 k (Or.inr hk))) hr.2.1 hr.2.2.1 hr.2.2.2.1
          refine am_after (r := r) (c2 := c2) (s2 := s2) hr hpc hcc (Or.inr ⟨hw2, hw3⟩) (Q2 := fun o h2 => am_PW p l e R s m args below meth c Qf D cA B cd nL mc ms n0 ad0 (is, ls, am_push o r, h2, nc + c2, ns + s2)) (fun o h2 hq => hq) (a := (((Value.ref k :: as).map (am_v ad))).toArray) ?_
          have hfit : nc + c2 ≤ R.cells ∧ ns + s2 ≤ R.slots := ⟨Nat.le_trans hcc.1 hRc.1, Nat.le_trans hcc.2 hRc.2⟩
          have hstk : List.map (am_v ad) st = (as.map (am_v ad)).reverse ++ .ref (ad k) :: r.map (am_v ad) := by rw [e2]; simp [am_v]
          have hWm : 2 * (F0 m pc la (List.map (am_v ad) st)).monitorRoom + ((r.map (am_v ad)).map fun v => v.category).sum ≤ 8 := by
            have hw9 := Nat.le_of_ble_eq_true hw
            rw [am_ws_eq]
            show 2 * 0 + am_ws r ≤ 8
            omega
          have hlen : (as.map (am_v ad)).length = n - 1 := by
            rw [List.length_map]
            simp at e1
            omega
          rw [hret0] at c0 c1 hM
          rcases (Bool.or_eq_true _ _).mp h5 with h4 | h4
          · exact va_runI (Ts := []) ⟨hx, hb, hml, hown, fun _ h => by cases h⟩ hM ⟨⟨c0.1, c0.2.1, c0.2.2.1, c0.2.2.2.1, c0.2.2.2.2.1, c0.2.2.2.2.2, c1, c3, c4, am_np_len hnp, hTW.at (of_decide_eq_true h4) rfl args⟩, hini, hTW.at hst rfl args⟩ hpre rfl hlen hr.2.2.2.2.1 hstk hWm hdg hfit
          · exact va_runIN (Ts := []) ⟨hx, hb, hml, hown, fun _ h => by cases h⟩ hM ⟨⟨c0, c1, c3, c4, am_np_len hnp, hTW.at (of_decide_eq_true h4) rfl args⟩, hini, hTW.at hst rfl args⟩ hpre rfl hlen hr.2.2.2.2.1 hstk hWm hdg hfit
        · cases hv
      · exact h.elim
    · exact h.elim
  · rename_i pk
    have hv : (Nat.beq pk 0 && am_pl own i 0 wl) = true := hv
    obtain ⟨h1, h3⟩ := (Bool.and_eq_true _ _).mp hv
    have p1 := Nat.eq_of_beq_eq_true h1
    subst p1
    split at h
    · rename_i hw
      have hww := Nat.le_of_ble_eq_true hw
      unfold am_pl at h3
      split at h3
      · rename_i wi
        have hl := of_decide_eq_true h3
        simp only [am_prim] at h
        split at h
        · rename_i x r
          have k := h ad H locs la hr.tl
          dsimp only at k
          rw [hpc] at k
          refine W.objInit hx hb hown (hTW.at hl rfl args) (hTW _ am_prims.1 rfl args) (hTW _ am_prims.2.1 rfl args) rfl (by rw [hml]; exact hr.2.2.2.2.1) rfl hdg (by omega) (by rw [am_ws_eq]; simp only [am_ws] at hww; show 2 * 0 + _ + 12 ≤ _; omega) ?_
          exact W.eq (g2 := F0 m (pc + 3) la (r.map (am_v ad))) rfl k
        · exact h.elim
      · cases h3
    · exact h.elim
  · exact h.elim
theorem am_vok_at {Y : am_Y} {own : String} {idx wi sm dc n kd mid : Nat} : ∀ {cs ws : List Nat}, am_vok Y own idx wi sm dc n cs ws = true → am_pick kd cs = some mid → ∃ (C : String) (T : u_T) (N w : Nat), vwCl[kd]? = some (C, T, N) ∧ lw_tbl[(Y mid).2.2.2.2.2.2]? = some (.instanceMethod (Y mid).1) ∧ (am_np (Y mid).1.desc = some (n - 1) ∧ 1 ≤ n ∧ mid < am_N) ∧ ((lw_tbl[wi]? = some (.methodLink own idx (Y mid).1) ∧ lw_tbl[w]? = some (.selects C (Y mid).1 (Y mid).1)) ∨ ∃ x : MethodName, lw_tbl[wi]? = some (.methodLink own idx x) ∧ lw_tbl[w]? = some (.selects C x (Y mid).1) ∧ lw_tbl[sm]? = some (.sameMethod x.cls "TwoKings$Reader" x.name x.desc) ∧ lw_tbl[dc]? = some (.declares ⟨"TwoKings$Reader", x.name, x.desc⟩) ∧ am_np x.desc = some (n - 1))
  | [], _, _, h => by simp [am_pick] at h
  | [_], _, _, h => by simp [am_pick] at h
  | ci :: md :: cs, [], h, _ => by cases h
  | ci :: md :: cs, w :: ws, h, hp => by
    obtain ⟨h1, h2⟩ := (Bool.and_eq_true _ _).mp h
    unfold am_pick at hp
    split at hp
    · rename_i e
      have e2 := Nat.eq_of_beq_eq_true e
      cases hp
      subst e2
      split at h1
      · rename_i C T N hc
        obtain ⟨g1, g2⟩ := (Bool.and_eq_true _ _).mp h1
        obtain ⟨g2, g3⟩ := (Bool.and_eq_true _ _).mp g2
        refine ⟨C, T, N, w, hc, of_decide_eq_true g1, of_decide_eq_true g2, ?_⟩
        rcases (Bool.or_eq_true _ _).mp g3 with g4 | g4
        · obtain ⟨g5, g6⟩ := (Bool.and_eq_true _ _).mp g4
          exact Or.inl ⟨of_decide_eq_true g5, of_decide_eq_true g6⟩
        · split at g4
          · rename_i o i x hw
            obtain ⟨g5, g6⟩ := (Bool.and_eq_true _ _).mp g4
            obtain ⟨g6, g7⟩ := (Bool.and_eq_true _ _).mp g6
            obtain ⟨g7, g8⟩ := (Bool.and_eq_true _ _).mp g7
            obtain ⟨g8, g9⟩ := (Bool.and_eq_true _ _).mp g8
            obtain ⟨rfl, rfl⟩ := of_decide_eq_true g5
            exact Or.inr ⟨x, hw, of_decide_eq_true g6, of_decide_eq_true g7, of_decide_eq_true g8, of_decide_eq_true g9⟩
          · cases g4
      · cases h1
    · exact am_vok_at h2 hp
set_option maxHeartbeats 1000000 in
theorem am_s_invokevirtual {p : Program} {l : Launch} {e : Env} {R : Room} {s : State} {m : MethodId} {args : Array Value} {below : List Frame} {meth : Method} {c : Code} {Qf : State → Prop} {D : va_G} {cA : Nat → ClassId} {B : Nat} {cd : List am_E} {nL mc ms n0 : Nat} {ad0 : Nat → Nat} {K : am_K} {I : am_I} {Tc : am_T} {Q : Option Value → am_H → Prop} {own : String} {bytes : ByteArray} {isI : Bool} {ret : Option FieldType} {Y : am_Y} (X : am_CX p R s m meth c D cA B cd nL mc ms ad0 K own bytes isI ret Y) {pc : Nat} {i : Nat} {dd : Nat} {rs : List Nat} {im : Int32} {wl : List Nat} {is : List am_E} {ls : am_L} {st : List Value} {hp : am_H} {nc ns : Nat} (hI : am_IOK l B K I) (hTc : ∀ (mid : Nat) (as : List Value) (hp : am_H) (c2 s2 : Nat) (Q2 : Option Value → am_H → Prop), mid < am_N → Tc mid as hp c2 s2 Q2 → am_Met l Y D cA B K mid as hp c2 s2 Q2 dd) (hRd : dd + 9 ≤ R.frames ∧ 60 * dd + 460 ≤ R.locals) (hY : ∀ mid, mid < am_N → am_yok Y mid) (h : am_step K I Tc cd mc ms Q (am_PW p l e R s m args below meth c Qf D cA B cd nL mc ms n0 ad0) ((pc, .invokevirtual i, rs, im, wl) :: is, ls, st, hp, nc, ns)) : (am_PW p l e R s m args below meth c Qf D cA B cd nL mc ms n0 ad0) ((pc, .invokevirtual i, rs, im, wl) :: is, ls, st, hp, nc, ns) := by
  intro ad H locs la hr
  obtain ⟨hx, hb, hml, hown, hisI, hTW, hK, hCU, hBs, hRc, hRf, hV⟩ := X
  have hok := hV _ _ hr.1.1
  obtain ⟨hd, hv⟩ := (Bool.and_eq_true _ _).mp hok
  obtain ⟨hdg, hpc⟩ := am_d_spec hd
  dsimp only [am_step] at h
  split at h
  · rename_i n cs
    split at h
    · rename_i k as r hpop
      split at h
      · rename_i kd nn qq hat
        split at h
        · rename_i mid hpick
          split at h
          · rename_i hw
            have hv : am_vw Y own i n cs wl = true := hv
            unfold am_vw at hv
            split at hv
            · rename_i wi sm dc ws
              obtain ⟨C, T, N, w, hc, hst, ⟨hnp, hn1, hmid⟩, hlk⟩ := am_vok_at hv hpick
              have hM := hTc mid (.ref k :: as) hp 0 0 _ hmid h ad
              obtain ⟨c0, c1, c3, c4⟩ := am_cw0 (hY mid hmid) (R := R) args hTW (mc := 0) (ms := 0) hRd
              obtain ⟨bs, e1, e2, e3⟩ := am_pop_eq hpop
              rw [List.append_nil] at e3
              subst e3
              have hpre := am_Pc.pre (K := K) (as := .ref k :: as) hBs hTW hK (hCU.ad (fun k hk => hr.1.2.2.1 k (Or.inr hk))) hr.2.1 hr.2.2.1 hr.2.2.2.1
              refine am_after (r := r) (c2 := 0) (s2 := 0) hr hpc hr.1.2.2.2.2 (Or.inl rfl) (Q2 := fun o h2 => am_PW p l e R s m args below meth c Qf D cA B cd nL mc ms n0 ad0 (is, ls, am_push o r, h2, nc, ns)) (fun o h2 hq => hq) (a := (((Value.ref k :: as).map (am_v ad))).toArray) ?_
              have hfit : nc + 0 ≤ R.cells ∧ ns + 0 ≤ R.slots := ⟨Nat.le_trans hr.1.2.2.2.2.1 hRc.1, Nat.le_trans hr.1.2.2.2.2.2 hRc.2⟩
              have hstk : List.map (am_v ad) st = (as.map (am_v ad)).reverse ++ .ref (ad k) :: r.map (am_v ad) := by rw [e2]; simp [am_v]
              have hWm : 2 * (F0 m pc la (List.map (am_v ad) st)).monitorRoom + ((r.map (am_v ad)).map fun v => v.category).sum ≤ 8 := by
                have hw9 := Nat.le_of_ble_eq_true hw
                rw [am_ws_eq]
                show 2 * 0 + am_ws r ≤ 8
                omega
              have hlen : (as.map (am_v ad)).length = n - 1 := by
                rw [List.length_map]
                simp at e1
                omega
              have hkd : kd < 100 := by
                have hl := (List.getElem?_eq_some_iff.mp hc).1
                have : vwCl.length = 12 := rfl
                omega
              have he := am_cw_at (cA := cA) (ad := ad) hat
              rw [am_cell_lt hkd] at he
              have hrecv := va_recv hK hr.2.1 hc he
              have hpreV : PreV s H C (ad k) (am_Pc D cA B K ad (.ref k :: as) hp) (as.map (am_v ad)) := ⟨hpre.1, hrecv, hpre.2⟩
              rcases hlk with ⟨g1, g2⟩ | ⟨x, g1, g2, g3, g4, g5⟩
              · exact va_runV (Ts := []) ⟨hx, hb, hml, hown, fun _ h => by cases h⟩ hM ⟨⟨c0.1, c0.2.1, c0.2.2.1, c0.2.2.2.1, c0.2.2.2.2.1, c0.2.2.2.2.2, c1, c3, c4, am_np_len hnp, hTW.at g1 rfl args⟩, hTW.at hst rfl args, hTW.at g2 rfl args⟩ hpreV rfl hlen hr.2.2.2.2.1 hstk hWm hdg hfit
              · exact va_runU (Ts := []) (owner := "TwoKings$Reader") ⟨hx, hb, hml, hown, fun _ h => by cases h⟩ hM ⟨c0, c1, c3, by decide, am_np_len g5, hTW.at g1 rfl args, hTW.at g3 rfl args, va_Decl.abs (va_Nw.of rfl (hTW.at g4 rfl args)), hTW.at g2 rfl args, hTW.at hst rfl args⟩ hpreV rfl hlen hr.2.2.2.2.1 hstk hWm hdg hfit
            · cases hv
          · exact h.elim
        · exact h.elim
      · exact h.elim
    · exact h.elim
  · rename_i pk
    have hv : (Nat.beq pk 5 && am_pl own i 5 wl) = true := hv
    obtain ⟨h1, h3⟩ := (Bool.and_eq_true _ _).mp hv
    have p1 := Nat.eq_of_beq_eq_true h1
    subst p1
    split at h
    · rename_i hw
      have hww := Nat.le_of_ble_eq_true hw
      unfold am_pl at h3
      split at h3
      · rename_i wi
        have hl := of_decide_eq_true h3
        simp only [am_prim] at h
        split at h
        · rename_i x k r
          split at h
          · rename_i f hf
            obtain ⟨hxx, h⟩ := h
            have kk := h ad H locs la hr.tl
            dsimp only at kk
            rw [hpc] at kk
            exact hI hx hb (by rw [hml]; exact hr.2.2.2.2.1.symm) hown hTW (hCU.ad (fun k hk => hr.1.2.2.1 k (Or.inr hk))) hBs hr.2.2.2.1 hRf.1 hRf.2 (Nat.le_trans hr.1.2.2.2.2.1 hRc.1) (Nat.le_trans hr.1.2.2.2.2.2 hRc.2) (hTW.at hl rfl args) hxx hf (by rw [am_ws_eq]; simp only [am_ws] at hww; show _ ≤ 8; have : (Value.int x).category = 1 := rfl; have : (Value.ref k).category = 1 := rfl; omega) hdg kk
          · exact h.elim
        · exact h.elim
      · cases h3
    · exact h.elim
  · exact h.elim
