def am_str (i : Nat) : Nat := 2000 + i
/-! ===== the relation between configurations and the machine's states; a theorem an instruction ===== -/
def am_TX : List (Nat × List Int32) := [
  (2537, [102, 100, 117, 104, 120]),
  (2647, [102, 100, 117]),
  (2703, [40]),
  (2736, [41]),
  (2735, [124]),
  (2730, [38]),
  (2724, [33]),
  (2729, [60, 62, 61]),
  (2702, [43, 45]),
  (2701, [42, 47, 37]),
  (2675, [91]),
  (2686, [107, 112, 113, 98, 99, 111, 118, 97, 116, 114]),
  (2685, [93]),
  (2684, [40, 91, 33]),
  (2740, [48, 49, 42]),
  (2753, [102, 98, 104, 111, 97]),
  (2774, [59]),
  (2698, [48, 49, 50, 51, 52, 53, 54, 55, 56, 57]),
  (2760, [97, 98, 99, 100, 101, 102, 103, 104, 105, 106, 107, 108, 109, 110, 111, 112]),
  (2773, [60, 61])]
/-- a text on the heap -/
def am_S1 (a b : Nat) (tx : List Int32) (A : Nat → Prop) (U : State) (H : Heap) : Prop := va_O "java/lang/String" a A U H ∧ va_OF "java/lang/String" "coder" "B" (.int 0) a A U H ∧ va_OF "java/lang/String" "value" "[B" (.ref b) a A U H ∧ va_T .byte b tx.length (fun j => .int (tx.getD j 0)) A U H
def am_SO (ad0 : Nat → Nat) (B : Nat) (U : State) (H : Heap) : Prop := va_Z "java/lang/String" "COMPACT_STRINGS" "Z" (.int 1) (fun a => B ≤ a) U H ∧ ∀ (k : Nat) (tx : List Int32), (k, tx) ∈ am_TX → ∃ b : Nat, am_S1 (ad0 k) b tx (fun a => B ≤ a) U H
/-- constants: arrays of ints, the static row, the texts -/
def am_CU (K : am_K) (ad0 : Nat → Nat) (B : Nat) (U : State) (H : Heap) : Prop := (∀ (k n : Nat) (f : Nat → Int32), K k = some (n, f) → 1000 ≤ k ∧ va_X (ad0 k) n f U H ∧ ad0 k < B) ∧ va_Z "TwoKings$Lane" "WEIGHT" "[I" (.ref (ad0 1001)) (fun a => B ≤ a) U H ∧ (∀ (i : Nat) (o : String) (j : Nat) (tx : String), lw_tbl[i]? = some (.stringRef o j tx) → vk_R o j tx (ad0 (am_str i)) U) ∧ am_SO ad0 B U H
def am_Rel (s : State) (D : va_G) (cA : Nat → ClassId) (B : Nat) (cd : List am_E) (nL mc ms n0 : Nat) (ad0 : Nat → Nat) (q : am_C) (ad : Nat → Nat) (H : Heap) (locs : List Loc) (la : Array Slot) : Prop :=
  (q.1 <:+ cd ∧ (mc = 0 → ad = ad0) ∧ (∀ k, (k < n0 ∨ 1000 ≤ k) → ad k = ad0 k) ∧ n0 ≤ q.2.2.2.1.1.length ∧ q.2.2.2.2.1 ≤ mc ∧ q.2.2.2.2.2 ≤ ms) ∧ va_P D vwCl (am_cw cA ad q.2.2.2.1) H ∧ va_D (fun a => B ≤ a) (am_cw cA ad q.2.2.2.1) ∧ va_S (fun a => B ≤ a) s.heap H locs ∧ am_LV ad q.2.1 la nL
def am_PW (p : Program) (l : Launch) (e : Env) (R : Room) (s : State) (m : MethodId) (args : Array Value) (below : List Frame) (meth : Method) (c : Code) (Qf : State → Prop) (D : va_G) (cA : Nat → ClassId) (B : Nat) (cd : List am_E) (nL mc ms n0 : Nat) (ad0 : Nat → Nat) (q : am_C) : Prop :=
  ∀ (ad : Nat → Nat) (H : Heap) (locs : List Loc) (la : Array Slot), am_Rel s D cA B cd nL mc ms n0 ad0 q ad H locs la → W p l e R s m args below meth c H locs q.2.2.2.2.1 q.2.2.2.2.2 Qf (F0 m (am_pcl q.1) la (q.2.2.1.map (am_v ad)))
def am_CX (p : Program) (R : Room) (s : State) (m : MethodId) (meth : Method) (c : Code) (D : va_G) (cA : Nat → ClassId) (B : Nat) (cd : List am_E) (nL mc ms : Nat) (ad0 : Nat → Nat) (K : am_K) (own : String) (bytes : ByteArray) (isI : Bool) (ret : Option FieldType) (Y : am_Y) : Prop :=
  p.tables.exec = Jvm.exec ∧ c.code = bytes ∧ c.maxLocals = nL ∧ s.vm.findClass own = some m.cls ∧ (isI = true → meth.name = "<init>") ∧ am_TW s ∧ va_K D vwCl (am_tys cA) s ∧ am_CU K ad0 B s s.heap ∧ B ≤ s.heap.size ∧ (mc ≤ R.cells ∧ ms ≤ R.slots) ∧ (8 ≤ R.frames ∧ 400 ≤ R.locals) ∧ ∀ (q : am_E) (is : List am_E), (q :: is) <:+ cd → am_okb Y own bytes isI ret cd q is = true
theorem am_Rel.go {s : State} {D : va_G} {cA : Nat → ClassId} {B : Nat} {cd : List am_E} {nL mc ms n0 : Nat} {ad0 : Nat → Nat} {i1 is : List am_E} {ls : am_L} {st st2 : List Value} {hp : am_H} {nc ns : Nat} {ad : Nat → Nat} {H : Heap} {locs : List Loc} {la : Array Slot} (hr : am_Rel s D cA B cd nL mc ms n0 ad0 (i1, ls, st, hp, nc, ns) ad H locs la) (hs : is <:+ cd) : am_Rel s D cA B cd nL mc ms n0 ad0 (is, ls, st2, hp, nc, ns) ad H locs la := ⟨⟨hs, hr.1.2⟩, hr.2⟩
theorem am_Rel.tl {s : State} {D : va_G} {cA : Nat → ClassId} {B : Nat} {cd : List am_E} {nL mc ms n0 : Nat} {ad0 : Nat → Nat} {q : am_E} {is : List am_E} {ls : am_L} {st st2 : List Value} {hp : am_H} {nc ns : Nat} {ad : Nat → Nat} {H : Heap} {locs : List Loc} {la : Array Slot} (hr : am_Rel s D cA B cd nL mc ms n0 ad0 (q :: is, ls, st, hp, nc, ns) ad H locs la) : am_Rel s D cA B cd nL mc ms n0 ad0 (is, ls, st2, hp, nc, ns) ad H locs la := hr.go ((List.suffix_cons _ _).trans hr.1.1)
theorem am_Rel.lv {s : State} {D : va_G} {cA : Nat → ClassId} {B : Nat} {cd : List am_E} {nL mc ms n0 : Nat} {ad0 : Nat → Nat} {q : am_E} {is : List am_E} {ls l2 : am_L} {st st2 : List Value} {hp : am_H} {nc ns : Nat} {ad : Nat → Nat} {H : Heap} {locs : List Loc} {la la2 : Array Slot} (hr : am_Rel s D cA B cd nL mc ms n0 ad0 (q :: is, ls, st, hp, nc, ns) ad H locs la) (h : am_LV ad l2 la2 nL) : am_Rel s D cA B cd nL mc ms n0 ad0 (is, l2, st2, hp, nc, ns) ad H locs la2 := ⟨⟨(List.suffix_cons _ _).trans hr.1.1, hr.1.2⟩, hr.2.1, hr.2.2.1, hr.2.2.2.1, h⟩
theorem am_d_spec {bytes : ByteArray} {pc : Nat} {ins : Instr} {len : Nat} {is : List am_E} (h : am_d bytes pc ins len is = true) : decode bytes pc = .ok (ins, len) ∧ am_pcl is = pc + len := by
  have h2 := (Bool.and_eq_true _ _).mp h
  exact ⟨of_decide_eq_true h2.1, Nat.eq_of_beq_eq_true h2.2⟩
theorem am_j_spec {cd : List am_E} {pc t : Nat} {off : Int} (h : am_j cd pc off t = true) : (pc : Int) + off = ((am_pcl (cd.drop t) : Nat) : Int) := of_decide_eq_true h
/-- the locals as a list of pairs -/
def am_lp (ad : Nat → Nat) : Nat → am_L → List (Nat × Value)
  | _, [] => []
  | i, none :: l => am_lp ad (i + 1) l
  | i, some v :: l => (i, am_v ad v) :: am_lp ad (i + 1) l
theorem am_lp_mem {ad : Nat → Nat} : ∀ (l : am_L) (i : Nat) (q : Nat × Value), q ∈ am_lp ad i l ↔ ∃ (j : Nat) (v : Value), am_get l j = some v ∧ q = (i + j, am_v ad v)
  | [], i, q => by simp [am_lp, am_get]
  | none :: l, i, q => by
    rw [show am_lp ad i (none :: l) = am_lp ad (i + 1) l from rfl, am_lp_mem l (i + 1) q]
    constructor
    · rintro ⟨j, v, h1, h2⟩
      exact ⟨j + 1, v, h1, by rw [h2]; congr 1; omega⟩
    · rintro ⟨j, v, h1, h2⟩
      cases j with
      | zero => cases h1
      | succ j => exact ⟨j, v, h1, by rw [h2]; congr 1; omega⟩
  | some w :: l, i, q => by
    rw [show am_lp ad i (some w :: l) = (i, am_v ad w) :: am_lp ad (i + 1) l from rfl, List.mem_cons, am_lp_mem l (i + 1) q]
    constructor
    · rintro (h | ⟨j, v, h1, h2⟩)
      · exact ⟨0, w, rfl, h⟩
      · exact ⟨j + 1, v, h1, by rw [h2]; congr 1; omega⟩
    · rintro ⟨j, v, h1, h2⟩
      cases j with
      | zero => cases h1; exact Or.inl h2
      | succ j => exact Or.inr ⟨j, v, h1, by rw [h2]; congr 1; omega⟩
theorem am_LV.get {ad : Nat → Nat} {ls : am_L} {la : Array Slot} {nL : Nat} (h : am_LV ad ls la nL) {i : Nat} {v : Value} (hg : am_get ls i = some v) : la[i]? = some (.val (am_v ad v)) := h.2.2.1 i v hg
theorem am_set_len2 : ∀ {l l2 : am_L} {i : Nat} {v : Value}, am_set l i v = some l2 → l2.length = l.length
  | [], _, _, _, h => by simp [am_set] at h
  | _ :: as, l2, 0, v, h => by
    have h2 : some (some v :: as) = some l2 := h
    cases h2
    rfl
  | a :: as, l2, n + 1, v, h => by
    unfold am_set at h
    split at h
    · cases h
    · split at h
      · cases h
      · rename_i r hs
        cases h
        simp [am_set_len2 hs]
theorem am_setL_len2 : ∀ {l l2 : am_L} {i : Nat} {v : Value}, am_setL l i v = some l2 → l2.length = l.length
  | [], _, _, _, h => by simp [am_setL] at h
  | [_], l2, 0, v, h => by simp [am_setL] at h
  | _ :: b :: as, l2, 0, v, h => by
    have h2 : some (some v :: none :: as) = some l2 := h
    cases h2
    rfl
  | a :: as, l2, n + 1, v, h => by
    unfold am_setL at h
    split at h
    · cases h
    · split at h
      · cases h
      · rename_i r hs
        cases h
        simp [am_setL_len2 hs]
theorem am_set_len : ∀ {l l2 : am_L} {i : Nat} {v : Value}, am_set l i v = some l2 → i < l.length
  | [], _, _, _, h => by simp [am_set] at h
  | _ :: _, _, 0, _, _ => by simp
  | a :: as, l2, n + 1, v, h => by
    unfold am_set at h
    split at h
    · cases h
    · split at h
      · cases h
      · rename_i r hs
        have := am_set_len hs
        simp
        omega
theorem am_setL_len : ∀ {l l2 : am_L} {i : Nat} {v : Value}, am_setL l i v = some l2 → i + 1 < l.length
  | [], _, _, _, h => by simp [am_setL] at h
  | [_], _, 0, _, h => by simp [am_setL] at h
  | _ :: _ :: _, _, 0, _, _ => by simp
  | a :: as, l2, n + 1, v, h => by
    unfold am_setL at h
    split at h
    · cases h
    · split at h
      · cases h
      · rename_i r hs
        have := am_setL_len hs
        simp
        omega
theorem am_set_lt {ad : Nat → Nat} {ls l2 : am_L} {la : Array Slot} {nL i : Nat} {v : Value} (h : am_LV ad ls la nL) (hs : am_set ls i v = some l2) : i < nL := by rw [← h.2.2.2]; exact am_set_len hs
theorem am_set_ltL {ad : Nat → Nat} {ls l2 : am_L} {la : Array Slot} {nL i : Nat} {v : Value} (h : am_LV ad ls la nL) (hs : am_setL ls i v = some l2) : i + 1 < nL := by rw [← h.2.2.2]; exact am_setL_len hs
theorem am_LV.has {ad : Nat → Nat} {ls : am_L} {la : Array Slot} {nL : Nat} (h : am_LV ad ls la nL) : lv_has la nL (am_lp ad 0 ls) := by
  refine ⟨h.1, h.2.1, fun q hq => ?_⟩
  obtain ⟨j, v, h1, rfl⟩ := (am_lp_mem ls 0 q).mp hq
  rw [Nat.zero_add]
  exact h.get h1
theorem am_get_set : ∀ {l l2 : am_L} {i : Nat} {v : Value}, am_set l i v = some l2 → ∀ (j : Nat) (w : Value), am_get l2 j = some w → (j = i ∧ w = v) ∨ (j ≠ i ∧ am_get l j = some w ∧ (j + 1 = i → am_isL (some w) = false))
  | [], _, _, _, h, _, _, _ => by simp [am_set] at h
  | _ :: as, l2, 0, v, h, j, w, hw => by
    have h2 : some (some v :: as) = some l2 := h
    cases h2
    cases j with
    | zero => exact Or.inl ⟨rfl, (Option.some.inj hw).symm⟩
    | succ j => exact Or.inr ⟨by omega, hw, by omega⟩
  | a :: as, l2, n + 1, v, h, j, w, hw => by
    unfold am_set at h
    split at h
    · cases h
    · rename_i hb
      split at h
      · cases h
      · rename_i r hs
        cases h
        cases j with
        | zero =>
          refine Or.inr ⟨by omega, hw, fun hj => ?_⟩
          have hn : n = 0 := by omega
          subst hn
          have ha : a = some w := hw
          rw [ha] at hb
          simpa using hb
        | succ j =>
          rcases am_get_set hs j w hw with ⟨h1, h2⟩ | ⟨h1, h2, h3⟩
          · exact Or.inl ⟨by omega, h2⟩
          · exact Or.inr ⟨by omega, h2, fun hj => h3 (by omega)⟩
theorem am_get_setL : ∀ {l l2 : am_L} {i : Nat} {v : Value}, am_setL l i v = some l2 → ∀ (j : Nat) (w : Value), am_get l2 j = some w → (j = i ∧ w = v) ∨ (j ≠ i ∧ j ≠ i + 1 ∧ am_get l j = some w ∧ (j + 1 = i → am_isL (some w) = false))
  | [], _, _, _, h, _, _, _ => by simp [am_setL] at h
  | _ :: [], l2, 0, v, h, j, w, hw => by simp [am_setL] at h
  | _ :: b :: as, l2, 0, v, h, j, w, hw => by
    have h2 : some (some v :: none :: as) = some l2 := h
    cases h2
    cases j with
    | zero => exact Or.inl ⟨rfl, (Option.some.inj hw).symm⟩
    | succ j => cases j with
      | zero => cases hw
      | succ j => exact Or.inr ⟨by omega, by omega, hw, by omega⟩
  | a :: as, l2, n + 1, v, h, j, w, hw => by
    unfold am_setL at h
    split at h
    · cases h
    · rename_i hb
      split at h
      · cases h
      · rename_i r hs
        cases h
        cases j with
        | zero =>
          refine Or.inr ⟨by omega, by omega, hw, fun hj => ?_⟩
          have hn : n = 0 := by omega
          subst hn
          have ha : a = some w := hw
          rw [ha] at hb
          simpa using hb
        | succ j =>
          rcases am_get_setL hs j w hw with ⟨h1, h2⟩ | ⟨h1, h2, h3, h4⟩
          · exact Or.inl ⟨by omega, h2⟩
          · exact Or.inr ⟨by omega, by omega, h3, fun hj => h4 (by omega)⟩
theorem am_v_cat (ad : Nat → Nat) (w : Value) : (am_v ad w).category = w.category := by cases w <;> rfl
theorem am_isL_cat {w : Value} (h : am_isL (some w) = false) : ¬ w.category = 2 := by cases w <;> simp [Value.category, am_isL] at h ⊢
/-- behind a store of one word -/
theorem am_LV.st {ad : Nat → Nat} {ls l2 : am_L} {la2 : Array Slot} {nL i : Nat} {v : Value} (hlen : ls.length = nL) (hs : am_set ls i v = some l2) (h2 : lv_has la2 nL ((i, am_v ad v) :: (am_lp ad 0 ls).filter (fun q => !(q.1 == i) && !(q.1 + 1 == i && q.2.category == 2)))) : am_LV ad l2 la2 nL := by
  refine ⟨h2.1, h2.2.1, fun j w hw => ?_, (am_set_len2 hs).trans hlen⟩
  rcases am_get_set hs j w hw with ⟨rfl, rfl⟩ | ⟨hj, hg, hL⟩
  · exact h2.2.2 (j, am_v ad w) List.mem_cons_self
  · refine h2.2.2 (j, am_v ad w) (List.mem_cons_of_mem _ (List.mem_filter.mpr ⟨(am_lp_mem ls 0 _).mpr ⟨j, w, hg, by rw [Nat.zero_add]⟩, ?_⟩))
    by_cases hji : j + 1 = i
    · have := am_isL_cat (hL hji)
      simp [hj, am_v_cat, this]
    · simp [hj, hji]
theorem am_LV.stL {ad : Nat → Nat} {ls l2 : am_L} {la2 : Array Slot} {nL i : Nat} {v : Value} (hlen : ls.length = nL) (hs : am_setL ls i v = some l2) (h2 : lv_has la2 nL ((i, am_v ad v) :: (am_lp ad 0 ls).filter (fun q => !(q.1 == i) && (!(q.1 == i + 1) && !(q.1 + 1 == i && q.2.category == 2))))) : am_LV ad l2 la2 nL := by
  refine ⟨h2.1, h2.2.1, fun j w hw => ?_, (am_setL_len2 hs).trans hlen⟩
  rcases am_get_setL hs j w hw with ⟨rfl, rfl⟩ | ⟨hj, hj2, hg, hL⟩
  · exact h2.2.2 (j, am_v ad w) List.mem_cons_self
  · refine h2.2.2 (j, am_v ad w) (List.mem_cons_of_mem _ (List.mem_filter.mpr ⟨(am_lp_mem ls 0 _).mpr ⟨j, w, hg, by rw [Nat.zero_add]⟩, ?_⟩))
    by_cases hji : j + 1 = i
    · have := am_isL_cat (hL hji)
      simp [hj, hj2, am_v_cat, this]
    · simp [hj, hj2, hji]
set_option maxHeartbeats 1000000 in
theorem am_s_iconst {p : Program} {l : Launch} {e : Env} {R : Room} {s : State} {m : MethodId} {args : Array Value} {below : List Frame} {meth : Method} {c : Code} {Qf : State → Prop} {D : va_G} {cA : Nat → ClassId} {B : Nat} {cd : List am_E} {nL mc ms n0 : Nat} {ad0 : Nat → Nat} {K : am_K} {I : am_I} {Tc : am_T} {Q : Option Value → am_H → Prop} {own : String} {bytes : ByteArray} {isI : Bool} {ret : Option FieldType} {Y : am_Y} (X : am_CX p R s m meth c D cA B cd nL mc ms ad0 K own bytes isI ret Y) {pc : Nat} {n : Int} {rs : List Nat} {im : Int32} {wl : List Nat} {is : List am_E} {ls : am_L} {st : List Value} {hp : am_H} {nc ns : Nat} (h : am_step K I Tc cd mc ms Q (am_PW p l e R s m args below meth c Qf D cA B cd nL mc ms n0 ad0) ((pc, .iconst n, rs, im, wl) :: is, ls, st, hp, nc, ns)) : (am_PW p l e R s m args below meth c Qf D cA B cd nL mc ms n0 ad0) ((pc, .iconst n, rs, im, wl) :: is, ls, st, hp, nc, ns) := by
  intro ad H locs la hr
  obtain ⟨hx, hb, hml, hown, hisI, hTW, hK, hCU, hBs, hRc, hRf, hV⟩ := X
  have hok := hV _ _ hr.1.1
  obtain ⟨hd, hv⟩ := (Bool.and_eq_true _ _).mp hok
  obtain ⟨hdg, hpc⟩ := am_d_spec hd
  have k := h ad H locs la hr.tl
  dsimp only at k
  rw [hpc] at k
  exact lv_iconst hx hb hdg (of_decide_eq_true hv) k
set_option maxHeartbeats 1000000 in
theorem am_s_bipush {p : Program} {l : Launch} {e : Env} {R : Room} {s : State} {m : MethodId} {args : Array Value} {below : List Frame} {meth : Method} {c : Code} {Qf : State → Prop} {D : va_G} {cA : Nat → ClassId} {B : Nat} {cd : List am_E} {nL mc ms n0 : Nat} {ad0 : Nat → Nat} {K : am_K} {I : am_I} {Tc : am_T} {Q : Option Value → am_H → Prop} {own : String} {bytes : ByteArray} {isI : Bool} {ret : Option FieldType} {Y : am_Y} (X : am_CX p R s m meth c D cA B cd nL mc ms ad0 K own bytes isI ret Y) {pc : Nat} {n : Int} {rs : List Nat} {im : Int32} {wl : List Nat} {is : List am_E} {ls : am_L} {st : List Value} {hp : am_H} {nc ns : Nat} (h : am_step K I Tc cd mc ms Q (am_PW p l e R s m args below meth c Qf D cA B cd nL mc ms n0 ad0) ((pc, .bipush n, rs, im, wl) :: is, ls, st, hp, nc, ns)) : (am_PW p l e R s m args below meth c Qf D cA B cd nL mc ms n0 ad0) ((pc, .bipush n, rs, im, wl) :: is, ls, st, hp, nc, ns) := by
  intro ad H locs la hr
  obtain ⟨hx, hb, hml, hown, hisI, hTW, hK, hCU, hBs, hRc, hRf, hV⟩ := X
  have hok := hV _ _ hr.1.1
  obtain ⟨hd, hv⟩ := (Bool.and_eq_true _ _).mp hok
  obtain ⟨hdg, hpc⟩ := am_d_spec hd
  have k := h ad H locs la hr.tl
  dsimp only at k
  rw [hpc] at k
  exact lv_bipush hx hb hdg (of_decide_eq_true hv) k
set_option maxHeartbeats 1000000 in
theorem am_s_sipush {p : Program} {l : Launch} {e : Env} {R : Room} {s : State} {m : MethodId} {args : Array Value} {below : List Frame} {meth : Method} {c : Code} {Qf : State → Prop} {D : va_G} {cA : Nat → ClassId} {B : Nat} {cd : List am_E} {nL mc ms n0 : Nat} {ad0 : Nat → Nat} {K : am_K} {I : am_I} {Tc : am_T} {Q : Option Value → am_H → Prop} {own : String} {bytes : ByteArray} {isI : Bool} {ret : Option FieldType} {Y : am_Y} (X : am_CX p R s m meth c D cA B cd nL mc ms ad0 K own bytes isI ret Y) {pc : Nat} {n : Int} {rs : List Nat} {im : Int32} {wl : List Nat} {is : List am_E} {ls : am_L} {st : List Value} {hp : am_H} {nc ns : Nat} (h : am_step K I Tc cd mc ms Q (am_PW p l e R s m args below meth c Qf D cA B cd nL mc ms n0 ad0) ((pc, .sipush n, rs, im, wl) :: is, ls, st, hp, nc, ns)) : (am_PW p l e R s m args below meth c Qf D cA B cd nL mc ms n0 ad0) ((pc, .sipush n, rs, im, wl) :: is, ls, st, hp, nc, ns) := by
  intro ad H locs la hr
  obtain ⟨hx, hb, hml, hown, hisI, hTW, hK, hCU, hBs, hRc, hRf, hV⟩ := X
  have hok := hV _ _ hr.1.1
  obtain ⟨hd, hv⟩ := (Bool.and_eq_true _ _).mp hok
  obtain ⟨hdg, hpc⟩ := am_d_spec hd
  have k := h ad H locs la hr.tl
  dsimp only at k
  rw [hpc] at k
  exact lv_sipush hx hb hdg (of_decide_eq_true hv) k
set_option maxHeartbeats 1000000 in
theorem am_s_lconst {p : Program} {l : Launch} {e : Env} {R : Room} {s : State} {m : MethodId} {args : Array Value} {below : List Frame} {meth : Method} {c : Code} {Qf : State → Prop} {D : va_G} {cA : Nat → ClassId} {B : Nat} {cd : List am_E} {nL mc ms n0 : Nat} {ad0 : Nat → Nat} {K : am_K} {I : am_I} {Tc : am_T} {Q : Option Value → am_H → Prop} {own : String} {bytes : ByteArray} {isI : Bool} {ret : Option FieldType} {Y : am_Y} (X : am_CX p R s m meth c D cA B cd nL mc ms ad0 K own bytes isI ret Y) {pc : Nat} {n : Fin 2} {rs : List Nat} {im : Int32} {wl : List Nat} {is : List am_E} {ls : am_L} {st : List Value} {hp : am_H} {nc ns : Nat} (h : am_step K I Tc cd mc ms Q (am_PW p l e R s m args below meth c Qf D cA B cd nL mc ms n0 ad0) ((pc, .lconst n, rs, im, wl) :: is, ls, st, hp, nc, ns)) : (am_PW p l e R s m args below meth c Qf D cA B cd nL mc ms n0 ad0) ((pc, .lconst n, rs, im, wl) :: is, ls, st, hp, nc, ns) := by
  intro ad H locs la hr
  obtain ⟨hx, hb, hml, hown, hisI, hTW, hK, hCU, hBs, hRc, hRf, hV⟩ := X
  have hok := hV _ _ hr.1.1
  obtain ⟨hd, hv⟩ := (Bool.and_eq_true _ _).mp hok
  obtain ⟨hdg, hpc⟩ := am_d_spec hd
  have k := h ad H locs la hr.tl
  dsimp only at k
  rw [hpc] at k
  exact lv_lconst hx hb hdg (of_decide_eq_true hv) k
set_option maxHeartbeats 1000000 in
theorem am_s_iload_n {p : Program} {l : Launch} {e : Env} {R : Room} {s : State} {m : MethodId} {args : Array Value} {below : List Frame} {meth : Method} {c : Code} {Qf : State → Prop} {D : va_G} {cA : Nat → ClassId} {B : Nat} {cd : List am_E} {nL mc ms n0 : Nat} {ad0 : Nat → Nat} {K : am_K} {I : am_I} {Tc : am_T} {Q : Option Value → am_H → Prop} {own : String} {bytes : ByteArray} {isI : Bool} {ret : Option FieldType} {Y : am_Y} (X : am_CX p R s m meth c D cA B cd nL mc ms ad0 K own bytes isI ret Y) {pc : Nat} {k : Fin 4} {rs : List Nat} {im : Int32} {wl : List Nat} {is : List am_E} {ls : am_L} {st : List Value} {hp : am_H} {nc ns : Nat} (h : am_step K I Tc cd mc ms Q (am_PW p l e R s m args below meth c Qf D cA B cd nL mc ms n0 ad0) ((pc, .iload_n k, rs, im, wl) :: is, ls, st, hp, nc, ns)) : (am_PW p l e R s m args below meth c Qf D cA B cd nL mc ms n0 ad0) ((pc, .iload_n k, rs, im, wl) :: is, ls, st, hp, nc, ns) := by
  intro ad H locs la hr
  obtain ⟨hx, hb, hml, hown, hisI, hTW, hK, hCU, hBs, hRc, hRf, hV⟩ := X
  have hok := hV _ _ hr.1.1
  obtain ⟨hd, hv⟩ := (Bool.and_eq_true _ _).mp hok
  obtain ⟨hdg, hpc⟩ := am_d_spec hd
  have hrs := of_decide_eq_true hv
  subst hrs
  dsimp only [am_step] at h
  split at h
  · rename_i x hg
    have k := h ad H locs la hr.tl
    dsimp only at k
    rw [hpc] at k
    exact lv_iload_n hx hb hdg rfl (hr.2.2.2.2.get hg) k
  · exact h.elim
set_option maxHeartbeats 1000000 in
theorem am_s_iload {p : Program} {l : Launch} {e : Env} {R : Room} {s : State} {m : MethodId} {args : Array Value} {below : List Frame} {meth : Method} {c : Code} {Qf : State → Prop} {D : va_G} {cA : Nat → ClassId} {B : Nat} {cd : List am_E} {nL mc ms n0 : Nat} {ad0 : Nat → Nat} {K : am_K} {I : am_I} {Tc : am_T} {Q : Option Value → am_H → Prop} {own : String} {bytes : ByteArray} {isI : Bool} {ret : Option FieldType} {Y : am_Y} (X : am_CX p R s m meth c D cA B cd nL mc ms ad0 K own bytes isI ret Y) {pc : Nat} {k : Nat} {rs : List Nat} {im : Int32} {wl : List Nat} {is : List am_E} {ls : am_L} {st : List Value} {hp : am_H} {nc ns : Nat} (h : am_step K I Tc cd mc ms Q (am_PW p l e R s m args below meth c Qf D cA B cd nL mc ms n0 ad0) ((pc, .iload k, rs, im, wl) :: is, ls, st, hp, nc, ns)) : (am_PW p l e R s m args below meth c Qf D cA B cd nL mc ms n0 ad0) ((pc, .iload k, rs, im, wl) :: is, ls, st, hp, nc, ns) := by
  intro ad H locs la hr
  obtain ⟨hx, hb, hml, hown, hisI, hTW, hK, hCU, hBs, hRc, hRf, hV⟩ := X
  have hok := hV _ _ hr.1.1
  obtain ⟨hd, hv⟩ := (Bool.and_eq_true _ _).mp hok
  obtain ⟨hdg, hpc⟩ := am_d_spec hd
  have hrs := of_decide_eq_true hv
  subst hrs
  dsimp only [am_step] at h
  split at h
  · rename_i x hg
    have k := h ad H locs la hr.tl
    dsimp only at k
    rw [hpc] at k
    exact lv_iload hx hb hdg (hr.2.2.2.2.get hg) k
  · exact h.elim
set_option maxHeartbeats 1000000 in
theorem am_s_aload_n {p : Program} {l : Launch} {e : Env} {R : Room} {s : State} {m : MethodId} {args : Array Value} {below : List Frame} {meth : Method} {c : Code} {Qf : State → Prop} {D : va_G} {cA : Nat → ClassId} {B : Nat} {cd : List am_E} {nL mc ms n0 : Nat} {ad0 : Nat → Nat} {K : am_K} {I : am_I} {Tc : am_T} {Q : Option Value → am_H → Prop} {own : String} {bytes : ByteArray} {isI : Bool} {ret : Option FieldType} {Y : am_Y} (X : am_CX p R s m meth c D cA B cd nL mc ms ad0 K own bytes isI ret Y) {pc : Nat} {k : Fin 4} {rs : List Nat} {im : Int32} {wl : List Nat} {is : List am_E} {ls : am_L} {st : List Value} {hp : am_H} {nc ns : Nat} (h : am_step K I Tc cd mc ms Q (am_PW p l e R s m args below meth c Qf D cA B cd nL mc ms n0 ad0) ((pc, .aload_n k, rs, im, wl) :: is, ls, st, hp, nc, ns)) : (am_PW p l e R s m args below meth c Qf D cA B cd nL mc ms n0 ad0) ((pc, .aload_n k, rs, im, wl) :: is, ls, st, hp, nc, ns) := by
  intro ad H locs la hr
  obtain ⟨hx, hb, hml, hown, hisI, hTW, hK, hCU, hBs, hRc, hRf, hV⟩ := X
  have hok := hV _ _ hr.1.1
  obtain ⟨hd, hv⟩ := (Bool.and_eq_true _ _).mp hok
  obtain ⟨hdg, hpc⟩ := am_d_spec hd
  have hrs := of_decide_eq_true hv
  subst hrs
  dsimp only [am_step] at h
  split at h
  · rename_i x hg
    have k := h ad H locs la hr.tl
    dsimp only at k
    rw [hpc] at k
    exact lv_aload_n hx hb hdg rfl (hr.2.2.2.2.get hg) k
  · exact h.elim
set_option maxHeartbeats 1000000 in
theorem am_s_aload {p : Program} {l : Launch} {e : Env} {R : Room} {s : State} {m : MethodId} {args : Array Value} {below : List Frame} {meth : Method} {c : Code} {Qf : State → Prop} {D : va_G} {cA : Nat → ClassId} {B : Nat} {cd : List am_E} {nL mc ms n0 : Nat} {ad0 : Nat → Nat} {K : am_K} {I : am_I} {Tc : am_T} {Q : Option Value → am_H → Prop} {own : String} {bytes : ByteArray} {isI : Bool} {ret : Option FieldType} {Y : am_Y} (X : am_CX p R s m meth c D cA B cd nL mc ms ad0 K own bytes isI ret Y) {pc : Nat} {k : Nat} {rs : List Nat} {im : Int32} {wl : List Nat} {is : List am_E} {ls : am_L} {st : List Value} {hp : am_H} {nc ns : Nat} (h : am_step K I Tc cd mc ms Q (am_PW p l e R s m args below meth c Qf D cA B cd nL mc ms n0 ad0) ((pc, .aload k, rs, im, wl) :: is, ls, st, hp, nc, ns)) : (am_PW p l e R s m args below meth c Qf D cA B cd nL mc ms n0 ad0) ((pc, .aload k, rs, im, wl) :: is, ls, st, hp, nc, ns) := by
  intro ad H locs la hr
  obtain ⟨hx, hb, hml, hown, hisI, hTW, hK, hCU, hBs, hRc, hRf, hV⟩ := X
  have hok := hV _ _ hr.1.1
  obtain ⟨hd, hv⟩ := (Bool.and_eq_true _ _).mp hok
  obtain ⟨hdg, hpc⟩ := am_d_spec hd
  have hrs := of_decide_eq_true hv
  subst hrs
  dsimp only [am_step] at h
  split at h
  · rename_i x hg
    have k := h ad H locs la hr.tl
    dsimp only at k
    rw [hpc] at k
    exact lv_aload hx hb hdg (hr.2.2.2.2.get hg) k
  · exact h.elim
set_option maxHeartbeats 1000000 in
theorem am_s_lload_n {p : Program} {l : Launch} {e : Env} {R : Room} {s : State} {m : MethodId} {args : Array Value} {below : List Frame} {meth : Method} {c : Code} {Qf : State → Prop} {D : va_G} {cA : Nat → ClassId} {B : Nat} {cd : List am_E} {nL mc ms n0 : Nat} {ad0 : Nat → Nat} {K : am_K} {I : am_I} {Tc : am_T} {Q : Option Value → am_H → Prop} {own : String} {bytes : ByteArray} {isI : Bool} {ret : Option FieldType} {Y : am_Y} (X : am_CX p R s m meth c D cA B cd nL mc ms ad0 K own bytes isI ret Y) {pc : Nat} {k : Fin 4} {rs : List Nat} {im : Int32} {wl : List Nat} {is : List am_E} {ls : am_L} {st : List Value} {hp : am_H} {nc ns : Nat} (h : am_step K I Tc cd mc ms Q (am_PW p l e R s m args below meth c Qf D cA B cd nL mc ms n0 ad0) ((pc, .lload_n k, rs, im, wl) :: is, ls, st, hp, nc, ns)) : (am_PW p l e R s m args below meth c Qf D cA B cd nL mc ms n0 ad0) ((pc, .lload_n k, rs, im, wl) :: is, ls, st, hp, nc, ns) := by
  intro ad H locs la hr
  obtain ⟨hx, hb, hml, hown, hisI, hTW, hK, hCU, hBs, hRc, hRf, hV⟩ := X
  have hok := hV _ _ hr.1.1
  obtain ⟨hd, hv⟩ := (Bool.and_eq_true _ _).mp hok
  obtain ⟨hdg, hpc⟩ := am_d_spec hd
  have hrs := of_decide_eq_true hv
  subst hrs
  dsimp only [am_step] at h
  split at h
  · rename_i x hg
    have k := h ad H locs la hr.tl
    dsimp only at k
    rw [hpc] at k
    exact lv_lload_n hx hb hdg rfl (hr.2.2.2.2.get hg) k
  · exact h.elim
set_option maxHeartbeats 1000000 in
theorem am_s_lload {p : Program} {l : Launch} {e : Env} {R : Room} {s : State} {m : MethodId} {args : Array Value} {below : List Frame} {meth : Method} {c : Code} {Qf : State → Prop} {D : va_G} {cA : Nat → ClassId} {B : Nat} {cd : List am_E} {nL mc ms n0 : Nat} {ad0 : Nat → Nat} {K : am_K} {I : am_I} {Tc : am_T} {Q : Option Value → am_H → Prop} {own : String} {bytes : ByteArray} {isI : Bool} {ret : Option FieldType} {Y : am_Y} (X : am_CX p R s m meth c D cA B cd nL mc ms ad0 K own bytes isI ret Y) {pc : Nat} {k : Nat} {rs : List Nat} {im : Int32} {wl : List Nat} {is : List am_E} {ls : am_L} {st : List Value} {hp : am_H} {nc ns : Nat} (h : am_step K I Tc cd mc ms Q (am_PW p l e R s m args below meth c Qf D cA B cd nL mc ms n0 ad0) ((pc, .lload k, rs, im, wl) :: is, ls, st, hp, nc, ns)) : (am_PW p l e R s m args below meth c Qf D cA B cd nL mc ms n0 ad0) ((pc, .lload k, rs, im, wl) :: is, ls, st, hp, nc, ns) := by
  intro ad H locs la hr
  obtain ⟨hx, hb, hml, hown, hisI, hTW, hK, hCU, hBs, hRc, hRf, hV⟩ := X
  have hok := hV _ _ hr.1.1
  obtain ⟨hd, hv⟩ := (Bool.and_eq_true _ _).mp hok
  obtain ⟨hdg, hpc⟩ := am_d_spec hd
  have hrs := of_decide_eq_true hv
  subst hrs
  dsimp only [am_step] at h
  split at h
  · rename_i x hg
    have k := h ad H locs la hr.tl
    dsimp only at k
    rw [hpc] at k
    exact lv_lload hx hb hdg (hr.2.2.2.2.get hg) k
  · exact h.elim
set_option maxHeartbeats 1000000 in
theorem am_s_istore_n {p : Program} {l : Launch} {e : Env} {R : Room} {s : State} {m : MethodId} {args : Array Value} {below : List Frame} {meth : Method} {c : Code} {Qf : State → Prop} {D : va_G} {cA : Nat → ClassId} {B : Nat} {cd : List am_E} {nL mc ms n0 : Nat} {ad0 : Nat → Nat} {K : am_K} {I : am_I} {Tc : am_T} {Q : Option Value → am_H → Prop} {own : String} {bytes : ByteArray} {isI : Bool} {ret : Option FieldType} {Y : am_Y} (X : am_CX p R s m meth c D cA B cd nL mc ms ad0 K own bytes isI ret Y) {pc : Nat} {k : Fin 4} {rs : List Nat} {im : Int32} {wl : List Nat} {is : List am_E} {ls : am_L} {st : List Value} {hp : am_H} {nc ns : Nat} (h : am_step K I Tc cd mc ms Q (am_PW p l e R s m args below meth c Qf D cA B cd nL mc ms n0 ad0) ((pc, .istore_n k, rs, im, wl) :: is, ls, st, hp, nc, ns)) : (am_PW p l e R s m args below meth c Qf D cA B cd nL mc ms n0 ad0) ((pc, .istore_n k, rs, im, wl) :: is, ls, st, hp, nc, ns) := by
  intro ad H locs la hr
  obtain ⟨hx, hb, hml, hown, hisI, hTW, hK, hCU, hBs, hRc, hRf, hV⟩ := X
  have hok := hV _ _ hr.1.1
  obtain ⟨hd, hv⟩ := (Bool.and_eq_true _ _).mp hok
  obtain ⟨hdg, hpc⟩ := am_d_spec hd
  have hrs := of_decide_eq_true hv
  subst hrs
  dsimp only [am_step] at h
  split at h
  · rename_i i x r he
    cases he
    split at h
    · rename_i l2 hs
      refine lv_istore_n hx hb hdg rfl hr.2.2.2.2.has (am_set_lt hr.2.2.2.2 hs) rfl (fun la2 h2 => ?_)
      have k := h ad H locs la2 (hr.lv (am_LV.st hr.2.2.2.2.2.2.2 hs h2))
      dsimp only at k
      rw [hpc] at k
      exact k
    · exact h.elim
  · exact h.elim
set_option maxHeartbeats 1000000 in
theorem am_s_istore {p : Program} {l : Launch} {e : Env} {R : Room} {s : State} {m : MethodId} {args : Array Value} {below : List Frame} {meth : Method} {c : Code} {Qf : State → Prop} {D : va_G} {cA : Nat → ClassId} {B : Nat} {cd : List am_E} {nL mc ms n0 : Nat} {ad0 : Nat → Nat} {K : am_K} {I : am_I} {Tc : am_T} {Q : Option Value → am_H → Prop} {own : String} {bytes : ByteArray} {isI : Bool} {ret : Option FieldType} {Y : am_Y} (X : am_CX p R s m meth c D cA B cd nL mc ms ad0 K own bytes isI ret Y) {pc : Nat} {k : Nat} {rs : List Nat} {im : Int32} {wl : List Nat} {is : List am_E} {ls : am_L} {st : List Value} {hp : am_H} {nc ns : Nat} (h : am_step K I Tc cd mc ms Q (am_PW p l e R s m args below meth c Qf D cA B cd nL mc ms n0 ad0) ((pc, .istore k, rs, im, wl) :: is, ls, st, hp, nc, ns)) : (am_PW p l e R s m args below meth c Qf D cA B cd nL mc ms n0 ad0) ((pc, .istore k, rs, im, wl) :: is, ls, st, hp, nc, ns) := by
  intro ad H locs la hr
  obtain ⟨hx, hb, hml, hown, hisI, hTW, hK, hCU, hBs, hRc, hRf, hV⟩ := X
  have hok := hV _ _ hr.1.1
  obtain ⟨hd, hv⟩ := (Bool.and_eq_true _ _).mp hok
  obtain ⟨hdg, hpc⟩ := am_d_spec hd
  have hrs := of_decide_eq_true hv
  subst hrs
  dsimp only [am_step] at h
  split at h
  · rename_i i x r he
    cases he
    split at h
    · rename_i l2 hs
      refine lv_istore hx hb hdg hr.2.2.2.2.has (am_set_lt hr.2.2.2.2 hs) rfl (fun la2 h2 => ?_)
      have k := h ad H locs la2 (hr.lv (am_LV.st hr.2.2.2.2.2.2.2 hs h2))
      dsimp only at k
      rw [hpc] at k
      exact k
    · exact h.elim
  · exact h.elim
set_option maxHeartbeats 1000000 in
theorem am_s_astore_n {p : Program} {l : Launch} {e : Env} {R : Room} {s : State} {m : MethodId} {args : Array Value} {below : List Frame} {meth : Method} {c : Code} {Qf : State → Prop} {D : va_G} {cA : Nat → ClassId} {B : Nat} {cd : List am_E} {nL mc ms n0 : Nat} {ad0 : Nat → Nat} {K : am_K} {I : am_I} {Tc : am_T} {Q : Option Value → am_H → Prop} {own : String} {bytes : ByteArray} {isI : Bool} {ret : Option FieldType} {Y : am_Y} (X : am_CX p R s m meth c D cA B cd nL mc ms ad0 K own bytes isI ret Y) {pc : Nat} {k : Fin 4} {rs : List Nat} {im : Int32} {wl : List Nat} {is : List am_E} {ls : am_L} {st : List Value} {hp : am_H} {nc ns : Nat} (h : am_step K I Tc cd mc ms Q (am_PW p l e R s m args below meth c Qf D cA B cd nL mc ms n0 ad0) ((pc, .astore_n k, rs, im, wl) :: is, ls, st, hp, nc, ns)) : (am_PW p l e R s m args below meth c Qf D cA B cd nL mc ms n0 ad0) ((pc, .astore_n k, rs, im, wl) :: is, ls, st, hp, nc, ns) := by
  intro ad H locs la hr
  obtain ⟨hx, hb, hml, hown, hisI, hTW, hK, hCU, hBs, hRc, hRf, hV⟩ := X
  have hok := hV _ _ hr.1.1
  obtain ⟨hd, hv⟩ := (Bool.and_eq_true _ _).mp hok
  obtain ⟨hdg, hpc⟩ := am_d_spec hd
  have hrs := of_decide_eq_true hv
  subst hrs
  dsimp only [am_step] at h
  split at h
  · rename_i i x r he
    cases he
    split at h
    · rename_i l2 hs
      refine lv_astore_n hx hb hdg rfl hr.2.2.2.2.has (am_set_lt hr.2.2.2.2 hs) rfl (fun la2 h2 => ?_)
      have k := h ad H locs la2 (hr.lv (am_LV.st hr.2.2.2.2.2.2.2 hs h2))
      dsimp only at k
      rw [hpc] at k
      exact k
    · exact h.elim
  · exact h.elim
set_option maxHeartbeats 1000000 in
theorem am_s_astore {p : Program} {l : Launch} {e : Env} {R : Room} {s : State} {m : MethodId} {args : Array Value} {below : List Frame} {meth : Method} {c : Code} {Qf : State → Prop} {D : va_G} {cA : Nat → ClassId} {B : Nat} {cd : List am_E} {nL mc ms n0 : Nat} {ad0 : Nat → Nat} {K : am_K} {I : am_I} {Tc : am_T} {Q : Option Value → am_H → Prop} {own : String} {bytes : ByteArray} {isI : Bool} {ret : Option FieldType} {Y : am_Y} (X : am_CX p R s m meth c D cA B cd nL mc ms ad0 K own bytes isI ret Y) {pc : Nat} {k : Nat} {rs : List Nat} {im : Int32} {wl : List Nat} {is : List am_E} {ls : am_L} {st : List Value} {hp : am_H} {nc ns : Nat} (h : am_step K I Tc cd mc ms Q (am_PW p l e R s m args below meth c Qf D cA B cd nL mc ms n0 ad0) ((pc, .astore k, rs, im, wl) :: is, ls, st, hp, nc, ns)) : (am_PW p l e R s m args below meth c Qf D cA B cd nL mc ms n0 ad0) ((pc, .astore k, rs, im, wl) :: is, ls, st, hp, nc, ns) := by
  intro ad H locs la hr
  obtain ⟨hx, hb, hml, hown, hisI, hTW, hK, hCU, hBs, hRc, hRf, hV⟩ := X
  have hok := hV _ _ hr.1.1
  obtain ⟨hd, hv⟩ := (Bool.and_eq_true _ _).mp hok
  obtain ⟨hdg, hpc⟩ := am_d_spec hd
  have hrs := of_decide_eq_true hv
  subst hrs
  dsimp only [am_step] at h
  split at h
  · rename_i i x r he
    cases he
    split at h
    · rename_i l2 hs
      refine lv_astore hx hb hdg hr.2.2.2.2.has (am_set_lt hr.2.2.2.2 hs) rfl (fun la2 h2 => ?_)
      have k := h ad H locs la2 (hr.lv (am_LV.st hr.2.2.2.2.2.2.2 hs h2))
      dsimp only at k
      rw [hpc] at k
      exact k
    · exact h.elim
  · exact h.elim
set_option maxHeartbeats 1000000 in
theorem am_s_lstore_n {p : Program} {l : Launch} {e : Env} {R : Room} {s : State} {m : MethodId} {args : Array Value} {below : List Frame} {meth : Method} {c : Code} {Qf : State → Prop} {D : va_G} {cA : Nat → ClassId} {B : Nat} {cd : List am_E} {nL mc ms n0 : Nat} {ad0 : Nat → Nat} {K : am_K} {I : am_I} {Tc : am_T} {Q : Option Value → am_H → Prop} {own : String} {bytes : ByteArray} {isI : Bool} {ret : Option FieldType} {Y : am_Y} (X : am_CX p R s m meth c D cA B cd nL mc ms ad0 K own bytes isI ret Y) {pc : Nat} {k : Fin 4} {rs : List Nat} {im : Int32} {wl : List Nat} {is : List am_E} {ls : am_L} {st : List Value} {hp : am_H} {nc ns : Nat} (h : am_step K I Tc cd mc ms Q (am_PW p l e R s m args below meth c Qf D cA B cd nL mc ms n0 ad0) ((pc, .lstore_n k, rs, im, wl) :: is, ls, st, hp, nc, ns)) : (am_PW p l e R s m args below meth c Qf D cA B cd nL mc ms n0 ad0) ((pc, .lstore_n k, rs, im, wl) :: is, ls, st, hp, nc, ns) := by
  intro ad H locs la hr
  obtain ⟨hx, hb, hml, hown, hisI, hTW, hK, hCU, hBs, hRc, hRf, hV⟩ := X
  have hok := hV _ _ hr.1.1
  obtain ⟨hd, hv⟩ := (Bool.and_eq_true _ _).mp hok
  obtain ⟨hdg, hpc⟩ := am_d_spec hd
  have hrs := of_decide_eq_true hv
  subst hrs
  dsimp only [am_step] at h
  split at h
  · rename_i i x r he
    cases he
    split at h
    · rename_i l2 hs
      refine lv_lstore_n hx hb hdg rfl hr.2.2.2.2.has (am_set_ltL hr.2.2.2.2 hs) rfl (fun la2 h2 => ?_)
      have k := h ad H locs la2 (hr.lv (am_LV.stL hr.2.2.2.2.2.2.2 hs h2))
      dsimp only at k
      rw [hpc] at k
      exact k
    · exact h.elim
  · exact h.elim
set_option maxHeartbeats 1000000 in
theorem am_s_lstore {p : Program} {l : Launch} {e : Env} {R : Room} {s : State} {m : MethodId} {args : Array Value} {below : List Frame} {meth : Method} {c : Code} {Qf : State → Prop} {D : va_G} {cA : Nat → ClassId} {B : Nat} {cd : List am_E} {nL mc ms n0 : Nat} {ad0 : Nat → Nat} {K : am_K} {I : am_I} {Tc : am_T} {Q : Option Value → am_H → Prop} {own : String} {bytes : ByteArray} {isI : Bool} {ret : Option FieldType} {Y : am_Y} (X : am_CX p R s m meth c D cA B cd nL mc ms ad0 K own bytes isI ret Y) {pc : Nat} {k : Nat} {rs : List Nat} {im : Int32} {wl : List Nat} {is : List am_E} {ls : am_L} {st : List Value} {hp : am_H} {nc ns : Nat} (h : am_step K I Tc cd mc ms Q (am_PW p l e R s m args below meth c Qf D cA B cd nL mc ms n0 ad0) ((pc, .lstore k, rs, im, wl) :: is, ls, st, hp, nc, ns)) : (am_PW p l e R s m args below meth c Qf D cA B cd nL mc ms n0 ad0) ((pc, .lstore k, rs, im, wl) :: is, ls, st, hp, nc, ns) := by
  intro ad H locs la hr
  obtain ⟨hx, hb, hml, hown, hisI, hTW, hK, hCU, hBs, hRc, hRf, hV⟩ := X
  have hok := hV _ _ hr.1.1
  obtain ⟨hd, hv⟩ := (Bool.and_eq_true _ _).mp hok
  obtain ⟨hdg, hpc⟩ := am_d_spec hd
  have hrs := of_decide_eq_true hv
  subst hrs
  dsimp only [am_step] at h
  split at h
  · rename_i i x r he
    cases he
    split at h
    · rename_i l2 hs
      refine lv_lstore hx hb hdg hr.2.2.2.2.has (am_set_ltL hr.2.2.2.2 hs) rfl (fun la2 h2 => ?_)
      have k := h ad H locs la2 (hr.lv (am_LV.stL hr.2.2.2.2.2.2.2 hs h2))
      dsimp only at k
      rw [hpc] at k
      exact k
    · exact h.elim
  · exact h.elim
set_option maxHeartbeats 1000000 in
theorem am_s_iinc {p : Program} {l : Launch} {e : Env} {R : Room} {s : State} {m : MethodId} {args : Array Value} {below : List Frame} {meth : Method} {c : Code} {Qf : State → Prop} {D : va_G} {cA : Nat → ClassId} {B : Nat} {cd : List am_E} {nL mc ms n0 : Nat} {ad0 : Nat → Nat} {K : am_K} {I : am_I} {Tc : am_T} {Q : Option Value → am_H → Prop} {own : String} {bytes : ByteArray} {isI : Bool} {ret : Option FieldType} {Y : am_Y} (X : am_CX p R s m meth c D cA B cd nL mc ms ad0 K own bytes isI ret Y) {pc : Nat} {k : Nat} {n : Int} {rs : List Nat} {im : Int32} {wl : List Nat} {is : List am_E} {ls : am_L} {st : List Value} {hp : am_H} {nc ns : Nat} (h : am_step K I Tc cd mc ms Q (am_PW p l e R s m args below meth c Qf D cA B cd nL mc ms n0 ad0) ((pc, .iinc k n, rs, im, wl) :: is, ls, st, hp, nc, ns)) : (am_PW p l e R s m args below meth c Qf D cA B cd nL mc ms n0 ad0) ((pc, .iinc k n, rs, im, wl) :: is, ls, st, hp, nc, ns) := by
  intro ad H locs la hr
  obtain ⟨hx, hb, hml, hown, hisI, hTW, hK, hCU, hBs, hRc, hRf, hV⟩ := X
  have hok := hV _ _ hr.1.1
  obtain ⟨hd, hv⟩ := (Bool.and_eq_true _ _).mp hok
  obtain ⟨hdg, hpc⟩ := am_d_spec hd
  obtain ⟨hrs, him⟩ := of_decide_eq_true hv
  subst hrs
  dsimp only [am_step] at h
  split at h
  · rename_i x hg
    split at h
    · rename_i l2 hs
      obtain ⟨kk, hkk⟩ := List.getElem?_of_mem ((am_lp_mem (ad := ad) ls 0 (k, .int x)).mpr ⟨k, .int x, hg, by rw [Nat.zero_add]; rfl⟩)
      refine lv_iinc (v := x + im) hx hb hdg hr.2.2.2.2.has hkk (by rw [him]) (am_set_lt hr.2.2.2.2 hs) rfl (fun la2 h2 => ?_)
      have k := h ad H locs la2 (hr.lv (am_LV.st hr.2.2.2.2.2.2.2 hs h2))
      dsimp only at k
      rw [hpc] at k
      exact k
    · exact h.elim
  · exact h.elim
set_option maxHeartbeats 1000000 in
theorem am_s_iadd {p : Program} {l : Launch} {e : Env} {R : Room} {s : State} {m : MethodId} {args : Array Value} {below : List Frame} {meth : Method} {c : Code} {Qf : State → Prop} {D : va_G} {cA : Nat → ClassId} {B : Nat} {cd : List am_E} {nL mc ms n0 : Nat} {ad0 : Nat → Nat} {K : am_K} {I : am_I} {Tc : am_T} {Q : Option Value → am_H → Prop} {own : String} {bytes : ByteArray} {isI : Bool} {ret : Option FieldType} {Y : am_Y} (X : am_CX p R s m meth c D cA B cd nL mc ms ad0 K own bytes isI ret Y) {pc : Nat} {rs : List Nat} {im : Int32} {wl : List Nat} {is : List am_E} {ls : am_L} {st : List Value} {hp : am_H} {nc ns : Nat} (h : am_step K I Tc cd mc ms Q (am_PW p l e R s m args below meth c Qf D cA B cd nL mc ms n0 ad0) ((pc, .iadd, rs, im, wl) :: is, ls, st, hp, nc, ns)) : (am_PW p l e R s m args below meth c Qf D cA B cd nL mc ms n0 ad0) ((pc, .iadd, rs, im, wl) :: is, ls, st, hp, nc, ns) := by
  intro ad H locs la hr
  obtain ⟨hx, hb, hml, hown, hisI, hTW, hK, hCU, hBs, hRc, hRf, hV⟩ := X
  have hok := hV _ _ hr.1.1
  obtain ⟨hdg, hpc⟩ := am_d_spec hok
  dsimp only [am_step] at h
  split at h
  · have k := h ad H locs la hr.tl
    dsimp only at k
    rw [hpc] at k
    exact lv_iadd hx hb hdg k
  · exact h.elim
set_option maxHeartbeats 1000000 in
theorem am_s_isub {p : Program} {l : Launch} {e : Env} {R : Room} {s : State} {m : MethodId} {args : Array Value} {below : List Frame} {meth : Method} {c : Code} {Qf : State → Prop} {D : va_G} {cA : Nat → ClassId} {B : Nat} {cd : List am_E} {nL mc ms n0 : Nat} {ad0 : Nat → Nat} {K : am_K} {I : am_I} {Tc : am_T} {Q : Option Value → am_H → Prop} {own : String} {bytes : ByteArray} {isI : Bool} {ret : Option FieldType} {Y : am_Y} (X : am_CX p R s m meth c D cA B cd nL mc ms ad0 K own bytes isI ret Y) {pc : Nat} {rs : List Nat} {im : Int32} {wl : List Nat} {is : List am_E} {ls : am_L} {st : List Value} {hp : am_H} {nc ns : Nat} (h : am_step K I Tc cd mc ms Q (am_PW p l e R s m args below meth c Qf D cA B cd nL mc ms n0 ad0) ((pc, .isub, rs, im, wl) :: is, ls, st, hp, nc, ns)) : (am_PW p l e R s m args below meth c Qf D cA B cd nL mc ms n0 ad0) ((pc, .isub, rs, im, wl) :: is, ls, st, hp, nc, ns) := by
  intro ad H locs la hr
  obtain ⟨hx, hb, hml, hown, hisI, hTW, hK, hCU, hBs, hRc, hRf, hV⟩ := X
  have hok := hV _ _ hr.1.1
  obtain ⟨hdg, hpc⟩ := am_d_spec hok
  dsimp only [am_step] at h
  split at h
  · have k := h ad H locs la hr.tl
    dsimp only at k
    rw [hpc] at k
    exact lv_isub hx hb hdg k
  · exact h.elim
set_option maxHeartbeats 1000000 in
theorem am_s_imul {p : Program} {l : Launch} {e : Env} {R : Room} {s : State} {m : MethodId} {args : Array Value} {below : List Frame} {meth : Method} {c : Code} {Qf : State → Prop} {D : va_G} {cA : Nat → ClassId} {B : Nat} {cd : List am_E} {nL mc ms n0 : Nat} {ad0 : Nat → Nat} {K : am_K} {I : am_I} {Tc : am_T} {Q : Option Value → am_H → Prop} {own : String} {bytes : ByteArray} {isI : Bool} {ret : Option FieldType} {Y : am_Y} (X : am_CX p R s m meth c D cA B cd nL mc ms ad0 K own bytes isI ret Y) {pc : Nat} {rs : List Nat} {im : Int32} {wl : List Nat} {is : List am_E} {ls : am_L} {st : List Value} {hp : am_H} {nc ns : Nat} (h : am_step K I Tc cd mc ms Q (am_PW p l e R s m args below meth c Qf D cA B cd nL mc ms n0 ad0) ((pc, .imul, rs, im, wl) :: is, ls, st, hp, nc, ns)) : (am_PW p l e R s m args below meth c Qf D cA B cd nL mc ms n0 ad0) ((pc, .imul, rs, im, wl) :: is, ls, st, hp, nc, ns) := by
  intro ad H locs la hr
  obtain ⟨hx, hb, hml, hown, hisI, hTW, hK, hCU, hBs, hRc, hRf, hV⟩ := X
  have hok := hV _ _ hr.1.1
  obtain ⟨hdg, hpc⟩ := am_d_spec hok
  dsimp only [am_step] at h
  split at h
  · have k := h ad H locs la hr.tl
    dsimp only at k
    rw [hpc] at k
    exact lv_imul hx hb hdg k
  · exact h.elim
set_option maxHeartbeats 1000000 in
theorem am_s_iand {p : Program} {l : Launch} {e : Env} {R : Room} {s : State} {m : MethodId} {args : Array Value} {below : List Frame} {meth : Method} {c : Code} {Qf : State → Prop} {D : va_G} {cA : Nat → ClassId} {B : Nat} {cd : List am_E} {nL mc ms n0 : Nat} {ad0 : Nat → Nat} {K : am_K} {I : am_I} {Tc : am_T} {Q : Option Value → am_H → Prop} {own : String} {bytes : ByteArray} {isI : Bool} {ret : Option FieldType} {Y : am_Y} (X : am_CX p R s m meth c D cA B cd nL mc ms ad0 K own bytes isI ret Y) {pc : Nat} {rs : List Nat} {im : Int32} {wl : List Nat} {is : List am_E} {ls : am_L} {st : List Value} {hp : am_H} {nc ns : Nat} (h : am_step K I Tc cd mc ms Q (am_PW p l e R s m args below meth c Qf D cA B cd nL mc ms n0 ad0) ((pc, .iand, rs, im, wl) :: is, ls, st, hp, nc, ns)) : (am_PW p l e R s m args below meth c Qf D cA B cd nL mc ms n0 ad0) ((pc, .iand, rs, im, wl) :: is, ls, st, hp, nc, ns) := by
  intro ad H locs la hr
  obtain ⟨hx, hb, hml, hown, hisI, hTW, hK, hCU, hBs, hRc, hRf, hV⟩ := X
  have hok := hV _ _ hr.1.1
  obtain ⟨hdg, hpc⟩ := am_d_spec hok
  dsimp only [am_step] at h
  split at h
  · have k := h ad H locs la hr.tl
    dsimp only at k
    rw [hpc] at k
    exact lv_iand hx hb hdg k
  · exact h.elim
set_option maxHeartbeats 1000000 in
theorem am_s_ior {p : Program} {l : Launch} {e : Env} {R : Room} {s : State} {m : MethodId} {args : Array Value} {below : List Frame} {meth : Method} {c : Code} {Qf : State → Prop} {D : va_G} {cA : Nat → ClassId} {B : Nat} {cd : List am_E} {nL mc ms n0 : Nat} {ad0 : Nat → Nat} {K : am_K} {I : am_I} {Tc : am_T} {Q : Option Value → am_H → Prop} {own : String} {bytes : ByteArray} {isI : Bool} {ret : Option FieldType} {Y : am_Y} (X : am_CX p R s m meth c D cA B cd nL mc ms ad0 K own bytes isI ret Y) {pc : Nat} {rs : List Nat} {im : Int32} {wl : List Nat} {is : List am_E} {ls : am_L} {st : List Value} {hp : am_H} {nc ns : Nat} (h : am_step K I Tc cd mc ms Q (am_PW p l e R s m args below meth c Qf D cA B cd nL mc ms n0 ad0) ((pc, .ior, rs, im, wl) :: is, ls, st, hp, nc, ns)) : (am_PW p l e R s m args below meth c Qf D cA B cd nL mc ms n0 ad0) ((pc, .ior, rs, im, wl) :: is, ls, st, hp, nc, ns) := by
  intro ad H locs la hr
  obtain ⟨hx, hb, hml, hown, hisI, hTW, hK, hCU, hBs, hRc, hRf, hV⟩ := X
  have hok := hV _ _ hr.1.1
  obtain ⟨hdg, hpc⟩ := am_d_spec hok
  dsimp only [am_step] at h
  split at h
  · have k := h ad H locs la hr.tl
    dsimp only at k
    rw [hpc] at k
    exact lv_ior hx hb hdg k
  · exact h.elim
set_option maxHeartbeats 1000000 in
theorem am_s_ixor {p : Program} {l : Launch} {e : Env} {R : Room} {s : State} {m : MethodId} {args : Array Value} {below : List Frame} {meth : Method} {c : Code} {Qf : State → Prop} {D : va_G} {cA : Nat → ClassId} {B : Nat} {cd : List am_E} {nL mc ms n0 : Nat} {ad0 : Nat → Nat} {K : am_K} {I : am_I} {Tc : am_T} {Q : Option Value → am_H → Prop} {own : String} {bytes : ByteArray} {isI : Bool} {ret : Option FieldType} {Y : am_Y} (X : am_CX p R s m meth c D cA B cd nL mc ms ad0 K own bytes isI ret Y) {pc : Nat} {rs : List Nat} {im : Int32} {wl : List Nat} {is : List am_E} {ls : am_L} {st : List Value} {hp : am_H} {nc ns : Nat} (h : am_step K I Tc cd mc ms Q (am_PW p l e R s m args below meth c Qf D cA B cd nL mc ms n0 ad0) ((pc, .ixor, rs, im, wl) :: is, ls, st, hp, nc, ns)) : (am_PW p l e R s m args below meth c Qf D cA B cd nL mc ms n0 ad0) ((pc, .ixor, rs, im, wl) :: is, ls, st, hp, nc, ns) := by
  intro ad H locs la hr
  obtain ⟨hx, hb, hml, hown, hisI, hTW, hK, hCU, hBs, hRc, hRf, hV⟩ := X
  have hok := hV _ _ hr.1.1
  obtain ⟨hdg, hpc⟩ := am_d_spec hok
  dsimp only [am_step] at h
  split at h
  · have k := h ad H locs la hr.tl
    dsimp only at k
    rw [hpc] at k
    exact lv_ixor hx hb hdg k
  · exact h.elim
set_option maxHeartbeats 1000000 in
theorem am_s_ishl {p : Program} {l : Launch} {e : Env} {R : Room} {s : State} {m : MethodId} {args : Array Value} {below : List Frame} {meth : Method} {c : Code} {Qf : State → Prop} {D : va_G} {cA : Nat → ClassId} {B : Nat} {cd : List am_E} {nL mc ms n0 : Nat} {ad0 : Nat → Nat} {K : am_K} {I : am_I} {Tc : am_T} {Q : Option Value → am_H → Prop} {own : String} {bytes : ByteArray} {isI : Bool} {ret : Option FieldType} {Y : am_Y} (X : am_CX p R s m meth c D cA B cd nL mc ms ad0 K own bytes isI ret Y) {pc : Nat} {rs : List Nat} {im : Int32} {wl : List Nat} {is : List am_E} {ls : am_L} {st : List Value} {hp : am_H} {nc ns : Nat} (h : am_step K I Tc cd mc ms Q (am_PW p l e R s m args below meth c Qf D cA B cd nL mc ms n0 ad0) ((pc, .ishl, rs, im, wl) :: is, ls, st, hp, nc, ns)) : (am_PW p l e R s m args below meth c Qf D cA B cd nL mc ms n0 ad0) ((pc, .ishl, rs, im, wl) :: is, ls, st, hp, nc, ns) := by
  intro ad H locs la hr
  obtain ⟨hx, hb, hml, hown, hisI, hTW, hK, hCU, hBs, hRc, hRf, hV⟩ := X
  have hok := hV _ _ hr.1.1
  obtain ⟨hdg, hpc⟩ := am_d_spec hok
  dsimp only [am_step] at h
  split at h
  · have k := h ad H locs la hr.tl
    dsimp only at k
    rw [hpc] at k
    exact lv_ishl hx hb hdg k
  · exact h.elim
set_option maxHeartbeats 1000000 in
theorem am_s_ishr {p : Program} {l : Launch} {e : Env} {R : Room} {s : State} {m : MethodId} {args : Array Value} {below : List Frame} {meth : Method} {c : Code} {Qf : State → Prop} {D : va_G} {cA : Nat → ClassId} {B : Nat} {cd : List am_E} {nL mc ms n0 : Nat} {ad0 : Nat → Nat} {K : am_K} {I : am_I} {Tc : am_T} {Q : Option Value → am_H → Prop} {own : String} {bytes : ByteArray} {isI : Bool} {ret : Option FieldType} {Y : am_Y} (X : am_CX p R s m meth c D cA B cd nL mc ms ad0 K own bytes isI ret Y) {pc : Nat} {rs : List Nat} {im : Int32} {wl : List Nat} {is : List am_E} {ls : am_L} {st : List Value} {hp : am_H} {nc ns : Nat} (h : am_step K I Tc cd mc ms Q (am_PW p l e R s m args below meth c Qf D cA B cd nL mc ms n0 ad0) ((pc, .ishr, rs, im, wl) :: is, ls, st, hp, nc, ns)) : (am_PW p l e R s m args below meth c Qf D cA B cd nL mc ms n0 ad0) ((pc, .ishr, rs, im, wl) :: is, ls, st, hp, nc, ns) := by
  intro ad H locs la hr
  obtain ⟨hx, hb, hml, hown, hisI, hTW, hK, hCU, hBs, hRc, hRf, hV⟩ := X
  have hok := hV _ _ hr.1.1
  obtain ⟨hdg, hpc⟩ := am_d_spec hok
  dsimp only [am_step] at h
  split at h
  · have k := h ad H locs la hr.tl
    dsimp only at k
    rw [hpc] at k
    exact lv_ishr hx hb hdg k
  · exact h.elim
set_option maxHeartbeats 1000000 in
theorem am_s_iushr {p : Program} {l : Launch} {e : Env} {R : Room} {s : State} {m : MethodId} {args : Array Value} {below : List Frame} {meth : Method} {c : Code} {Qf : State → Prop} {D : va_G} {cA : Nat → ClassId} {B : Nat} {cd : List am_E} {nL mc ms n0 : Nat} {ad0 : Nat → Nat} {K : am_K} {I : am_I} {Tc : am_T} {Q : Option Value → am_H → Prop} {own : String} {bytes : ByteArray} {isI : Bool} {ret : Option FieldType} {Y : am_Y} (X : am_CX p R s m meth c D cA B cd nL mc ms ad0 K own bytes isI ret Y) {pc : Nat} {rs : List Nat} {im : Int32} {wl : List Nat} {is : List am_E} {ls : am_L} {st : List Value} {hp : am_H} {nc ns : Nat} (h : am_step K I Tc cd mc ms Q (am_PW p l e R s m args below meth c Qf D cA B cd nL mc ms n0 ad0) ((pc, .iushr, rs, im, wl) :: is, ls, st, hp, nc, ns)) : (am_PW p l e R s m args below meth c Qf D cA B cd nL mc ms n0 ad0) ((pc, .iushr, rs, im, wl) :: is, ls, st, hp, nc, ns) := by
  intro ad H locs la hr
  obtain ⟨hx, hb, hml, hown, hisI, hTW, hK, hCU, hBs, hRc, hRf, hV⟩ := X
  have hok := hV _ _ hr.1.1
  obtain ⟨hdg, hpc⟩ := am_d_spec hok
  dsimp only [am_step] at h
  split at h
  · have k := h ad H locs la hr.tl
    dsimp only at k
    rw [hpc] at k
    exact lv_iushr hx hb hdg rfl k
  · exact h.elim
set_option maxHeartbeats 1000000 in
theorem am_s_ineg {p : Program} {l : Launch} {e : Env} {R : Room} {s : State} {m : MethodId} {args : Array Value} {below : List Frame} {meth : Method} {c : Code} {Qf : State → Prop} {D : va_G} {cA : Nat → ClassId} {B : Nat} {cd : List am_E} {nL mc ms n0 : Nat} {ad0 : Nat → Nat} {K : am_K} {I : am_I} {Tc : am_T} {Q : Option Value → am_H → Prop} {own : String} {bytes : ByteArray} {isI : Bool} {ret : Option FieldType} {Y : am_Y} (X : am_CX p R s m meth c D cA B cd nL mc ms ad0 K own bytes isI ret Y) {pc : Nat} {rs : List Nat} {im : Int32} {wl : List Nat} {is : List am_E} {ls : am_L} {st : List Value} {hp : am_H} {nc ns : Nat} (h : am_step K I Tc cd mc ms Q (am_PW p l e R s m args below meth c Qf D cA B cd nL mc ms n0 ad0) ((pc, .ineg, rs, im, wl) :: is, ls, st, hp, nc, ns)) : (am_PW p l e R s m args below meth c Qf D cA B cd nL mc ms n0 ad0) ((pc, .ineg, rs, im, wl) :: is, ls, st, hp, nc, ns) := by
  intro ad H locs la hr
  obtain ⟨hx, hb, hml, hown, hisI, hTW, hK, hCU, hBs, hRc, hRf, hV⟩ := X
  have hok := hV _ _ hr.1.1
  obtain ⟨hdg, hpc⟩ := am_d_spec hok
  dsimp only [am_step] at h
  split at h
  · have k := h ad H locs la hr.tl
    dsimp only at k
    rw [hpc] at k
    exact lv_ineg hx hb hdg k
  · exact h.elim
set_option maxHeartbeats 1000000 in
theorem am_s_i2b {p : Program} {l : Launch} {e : Env} {R : Room} {s : State} {m : MethodId} {args : Array Value} {below : List Frame} {meth : Method} {c : Code} {Qf : State → Prop} {D : va_G} {cA : Nat → ClassId} {B : Nat} {cd : List am_E} {nL mc ms n0 : Nat} {ad0 : Nat → Nat} {K : am_K} {I : am_I} {Tc : am_T} {Q : Option Value → am_H → Prop} {own : String} {bytes : ByteArray} {isI : Bool} {ret : Option FieldType} {Y : am_Y} (X : am_CX p R s m meth c D cA B cd nL mc ms ad0 K own bytes isI ret Y) {pc : Nat} {rs : List Nat} {im : Int32} {wl : List Nat} {is : List am_E} {ls : am_L} {st : List Value} {hp : am_H} {nc ns : Nat} (h : am_step K I Tc cd mc ms Q (am_PW p l e R s m args below meth c Qf D cA B cd nL mc ms n0 ad0) ((pc, .i2b, rs, im, wl) :: is, ls, st, hp, nc, ns)) : (am_PW p l e R s m args below meth c Qf D cA B cd nL mc ms n0 ad0) ((pc, .i2b, rs, im, wl) :: is, ls, st, hp, nc, ns) := by
  intro ad H locs la hr
  obtain ⟨hx, hb, hml, hown, hisI, hTW, hK, hCU, hBs, hRc, hRf, hV⟩ := X
  have hok := hV _ _ hr.1.1
  obtain ⟨hdg, hpc⟩ := am_d_spec hok
  dsimp only [am_step] at h
  split at h
  · have k := h ad H locs la hr.tl
    dsimp only at k
    rw [hpc] at k
    exact lv_i2b hx hb hdg rfl k
  · exact h.elim
set_option maxHeartbeats 1000000 in
theorem am_s_i2c {p : Program} {l : Launch} {e : Env} {R : Room} {s : State} {m : MethodId} {args : Array Value} {below : List Frame} {meth : Method} {c : Code} {Qf : State → Prop} {D : va_G} {cA : Nat → ClassId} {B : Nat} {cd : List am_E} {nL mc ms n0 : Nat} {ad0 : Nat → Nat} {K : am_K} {I : am_I} {Tc : am_T} {Q : Option Value → am_H → Prop} {own : String} {bytes : ByteArray} {isI : Bool} {ret : Option FieldType} {Y : am_Y} (X : am_CX p R s m meth c D cA B cd nL mc ms ad0 K own bytes isI ret Y) {pc : Nat} {rs : List Nat} {im : Int32} {wl : List Nat} {is : List am_E} {ls : am_L} {st : List Value} {hp : am_H} {nc ns : Nat} (h : am_step K I Tc cd mc ms Q (am_PW p l e R s m args below meth c Qf D cA B cd nL mc ms n0 ad0) ((pc, .i2c, rs, im, wl) :: is, ls, st, hp, nc, ns)) : (am_PW p l e R s m args below meth c Qf D cA B cd nL mc ms n0 ad0) ((pc, .i2c, rs, im, wl) :: is, ls, st, hp, nc, ns) := by
  intro ad H locs la hr
  obtain ⟨hx, hb, hml, hown, hisI, hTW, hK, hCU, hBs, hRc, hRf, hV⟩ := X
  have hok := hV _ _ hr.1.1
  obtain ⟨hdg, hpc⟩ := am_d_spec hok
  dsimp only [am_step] at h
  split at h
  · have k := h ad H locs la hr.tl
    dsimp only at k
    rw [hpc] at k
    exact lv_i2c hx hb hdg rfl k
  · exact h.elim
set_option maxHeartbeats 1000000 in
theorem am_s_i2l {p : Program} {l : Launch} {e : Env} {R : Room} {s : State} {m : MethodId} {args : Array Value} {below : List Frame} {meth : Method} {c : Code} {Qf : State → Prop} {D : va_G} {cA : Nat → ClassId} {B : Nat} {cd : List am_E} {nL mc ms n0 : Nat} {ad0 : Nat → Nat} {K : am_K} {I : am_I} {Tc : am_T} {Q : Option Value → am_H → Prop} {own : String} {bytes : ByteArray} {isI : Bool} {ret : Option FieldType} {Y : am_Y} (X : am_CX p R s m meth c D cA B cd nL mc ms ad0 K own bytes isI ret Y) {pc : Nat} {rs : List Nat} {im : Int32} {wl : List Nat} {is : List am_E} {ls : am_L} {st : List Value} {hp : am_H} {nc ns : Nat} (h : am_step K I Tc cd mc ms Q (am_PW p l e R s m args below meth c Qf D cA B cd nL mc ms n0 ad0) ((pc, .i2l, rs, im, wl) :: is, ls, st, hp, nc, ns)) : (am_PW p l e R s m args below meth c Qf D cA B cd nL mc ms n0 ad0) ((pc, .i2l, rs, im, wl) :: is, ls, st, hp, nc, ns) := by
  intro ad H locs la hr
  obtain ⟨hx, hb, hml, hown, hisI, hTW, hK, hCU, hBs, hRc, hRf, hV⟩ := X
  have hok := hV _ _ hr.1.1
  obtain ⟨hdg, hpc⟩ := am_d_spec hok
  dsimp only [am_step] at h
  split at h
  · have k := h ad H locs la hr.tl
    dsimp only at k
    rw [hpc] at k
    exact lv_i2l hx hb hdg rfl k
  · exact h.elim
set_option maxHeartbeats 1000000 in
theorem am_s_ladd {p : Program} {l : Launch} {e : Env} {R : Room} {s : State} {m : MethodId} {args : Array Value} {below : List Frame} {meth : Method} {c : Code} {Qf : State → Prop} {D : va_G} {cA : Nat → ClassId} {B : Nat} {cd : List am_E} {nL mc ms n0 : Nat} {ad0 : Nat → Nat} {K : am_K} {I : am_I} {Tc : am_T} {Q : Option Value → am_H → Prop} {own : String} {bytes : ByteArray} {isI : Bool} {ret : Option FieldType} {Y : am_Y} (X : am_CX p R s m meth c D cA B cd nL mc ms ad0 K own bytes isI ret Y) {pc : Nat} {rs : List Nat} {im : Int32} {wl : List Nat} {is : List am_E} {ls : am_L} {st : List Value} {hp : am_H} {nc ns : Nat} (h : am_step K I Tc cd mc ms Q (am_PW p l e R s m args below meth c Qf D cA B cd nL mc ms n0 ad0) ((pc, .ladd, rs, im, wl) :: is, ls, st, hp, nc, ns)) : (am_PW p l e R s m args below meth c Qf D cA B cd nL mc ms n0 ad0) ((pc, .ladd, rs, im, wl) :: is, ls, st, hp, nc, ns) := by
  intro ad H locs la hr
  obtain ⟨hx, hb, hml, hown, hisI, hTW, hK, hCU, hBs, hRc, hRf, hV⟩ := X
  have hok := hV _ _ hr.1.1
  obtain ⟨hdg, hpc⟩ := am_d_spec hok
  dsimp only [am_step] at h
  split at h
  · have k := h ad H locs la hr.tl
    dsimp only at k
    rw [hpc] at k
    exact lv_ladd hx hb hdg k
  · exact h.elim
set_option maxHeartbeats 1000000 in
theorem am_s_lcmp {p : Program} {l : Launch} {e : Env} {R : Room} {s : State} {m : MethodId} {args : Array Value} {below : List Frame} {meth : Method} {c : Code} {Qf : State → Prop} {D : va_G} {cA : Nat → ClassId} {B : Nat} {cd : List am_E} {nL mc ms n0 : Nat} {ad0 : Nat → Nat} {K : am_K} {I : am_I} {Tc : am_T} {Q : Option Value → am_H → Prop} {own : String} {bytes : ByteArray} {isI : Bool} {ret : Option FieldType} {Y : am_Y} (X : am_CX p R s m meth c D cA B cd nL mc ms ad0 K own bytes isI ret Y) {pc : Nat} {rs : List Nat} {im : Int32} {wl : List Nat} {is : List am_E} {ls : am_L} {st : List Value} {hp : am_H} {nc ns : Nat} (h : am_step K I Tc cd mc ms Q (am_PW p l e R s m args below meth c Qf D cA B cd nL mc ms n0 ad0) ((pc, .lcmp, rs, im, wl) :: is, ls, st, hp, nc, ns)) : (am_PW p l e R s m args below meth c Qf D cA B cd nL mc ms n0 ad0) ((pc, .lcmp, rs, im, wl) :: is, ls, st, hp, nc, ns) := by
  intro ad H locs la hr
  obtain ⟨hx, hb, hml, hown, hisI, hTW, hK, hCU, hBs, hRc, hRf, hV⟩ := X
  have hok := hV _ _ hr.1.1
  obtain ⟨hdg, hpc⟩ := am_d_spec hok
  dsimp only [am_step] at h
  split at h
  · have k := h ad H locs la hr.tl
    dsimp only at k
    rw [hpc] at k
    exact W.lcmp hx hb hdg k
  · exact h.elim
set_option maxHeartbeats 1000000 in
theorem am_s_pop {p : Program} {l : Launch} {e : Env} {R : Room} {s : State} {m : MethodId} {args : Array Value} {below : List Frame} {meth : Method} {c : Code} {Qf : State → Prop} {D : va_G} {cA : Nat → ClassId} {B : Nat} {cd : List am_E} {nL mc ms n0 : Nat} {ad0 : Nat → Nat} {K : am_K} {I : am_I} {Tc : am_T} {Q : Option Value → am_H → Prop} {own : String} {bytes : ByteArray} {isI : Bool} {ret : Option FieldType} {Y : am_Y} (X : am_CX p R s m meth c D cA B cd nL mc ms ad0 K own bytes isI ret Y) {pc : Nat} {rs : List Nat} {im : Int32} {wl : List Nat} {is : List am_E} {ls : am_L} {st : List Value} {hp : am_H} {nc ns : Nat} (h : am_step K I Tc cd mc ms Q (am_PW p l e R s m args below meth c Qf D cA B cd nL mc ms n0 ad0) ((pc, .pop, rs, im, wl) :: is, ls, st, hp, nc, ns)) : (am_PW p l e R s m args below meth c Qf D cA B cd nL mc ms n0 ad0) ((pc, .pop, rs, im, wl) :: is, ls, st, hp, nc, ns) := by
  intro ad H locs la hr
  obtain ⟨hx, hb, hml, hown, hisI, hTW, hK, hCU, hBs, hRc, hRf, hV⟩ := X
  have hok := hV _ _ hr.1.1
  obtain ⟨hdg, hpc⟩ := am_d_spec hok
  dsimp only [am_step] at h
  split at h
  · have k := h ad H locs la hr.tl
    dsimp only at k
    rw [hpc] at k
    exact lv_pop hx hb hdg rfl k
  · exact h.elim
set_option maxHeartbeats 1000000 in
theorem am_s_dup2 {p : Program} {l : Launch} {e : Env} {R : Room} {s : State} {m : MethodId} {args : Array Value} {below : List Frame} {meth : Method} {c : Code} {Qf : State → Prop} {D : va_G} {cA : Nat → ClassId} {B : Nat} {cd : List am_E} {nL mc ms n0 : Nat} {ad0 : Nat → Nat} {K : am_K} {I : am_I} {Tc : am_T} {Q : Option Value → am_H → Prop} {own : String} {bytes : ByteArray} {isI : Bool} {ret : Option FieldType} {Y : am_Y} (X : am_CX p R s m meth c D cA B cd nL mc ms ad0 K own bytes isI ret Y) {pc : Nat} {rs : List Nat} {im : Int32} {wl : List Nat} {is : List am_E} {ls : am_L} {st : List Value} {hp : am_H} {nc ns : Nat} (h : am_step K I Tc cd mc ms Q (am_PW p l e R s m args below meth c Qf D cA B cd nL mc ms n0 ad0) ((pc, .dup2, rs, im, wl) :: is, ls, st, hp, nc, ns)) : (am_PW p l e R s m args below meth c Qf D cA B cd nL mc ms n0 ad0) ((pc, .dup2, rs, im, wl) :: is, ls, st, hp, nc, ns) := by
  intro ad H locs la hr
  obtain ⟨hx, hb, hml, hown, hisI, hTW, hK, hCU, hBs, hRc, hRf, hV⟩ := X
  have hok := hV _ _ hr.1.1
  obtain ⟨hdg, hpc⟩ := am_d_spec hok
  dsimp only [am_step] at h
  split at h
  · have k := h ad H locs la hr.tl
    dsimp only at k
    rw [hpc] at k
    exact lv_dup2_11 hx hb hdg rfl rfl k
  · exact h.elim
set_option maxHeartbeats 1000000 in
theorem am_s_dup {p : Program} {l : Launch} {e : Env} {R : Room} {s : State} {m : MethodId} {args : Array Value} {below : List Frame} {meth : Method} {c : Code} {Qf : State → Prop} {D : va_G} {cA : Nat → ClassId} {B : Nat} {cd : List am_E} {nL mc ms n0 : Nat} {ad0 : Nat → Nat} {K : am_K} {I : am_I} {Tc : am_T} {Q : Option Value → am_H → Prop} {own : String} {bytes : ByteArray} {isI : Bool} {ret : Option FieldType} {Y : am_Y} (X : am_CX p R s m meth c D cA B cd nL mc ms ad0 K own bytes isI ret Y) {pc : Nat} {rs : List Nat} {im : Int32} {wl : List Nat} {is : List am_E} {ls : am_L} {st : List Value} {hp : am_H} {nc ns : Nat} (h : am_step K I Tc cd mc ms Q (am_PW p l e R s m args below meth c Qf D cA B cd nL mc ms n0 ad0) ((pc, .dup, rs, im, wl) :: is, ls, st, hp, nc, ns)) : (am_PW p l e R s m args below meth c Qf D cA B cd nL mc ms n0 ad0) ((pc, .dup, rs, im, wl) :: is, ls, st, hp, nc, ns) := by
  intro ad H locs la hr
  obtain ⟨hx, hb, hml, hown, hisI, hTW, hK, hCU, hBs, hRc, hRf, hV⟩ := X
  have hok := hV _ _ hr.1.1
  obtain ⟨hdg, hpc⟩ := am_d_spec hok
  dsimp only [am_step] at h
  split at h
  · have k := h ad H locs la hr.tl
    dsimp only at k
    rw [hpc] at k
    exact lv_dup hx hb hdg rfl k
  · have k := h ad H locs la hr.tl
    dsimp only at k
    rw [hpc] at k
    exact lv_dup hx hb hdg rfl k
  · exact h.elim
set_option maxHeartbeats 1000000 in
theorem am_s_idiv {p : Program} {l : Launch} {e : Env} {R : Room} {s : State} {m : MethodId} {args : Array Value} {below : List Frame} {meth : Method} {c : Code} {Qf : State → Prop} {D : va_G} {cA : Nat → ClassId} {B : Nat} {cd : List am_E} {nL mc ms n0 : Nat} {ad0 : Nat → Nat} {K : am_K} {I : am_I} {Tc : am_T} {Q : Option Value → am_H → Prop} {own : String} {bytes : ByteArray} {isI : Bool} {ret : Option FieldType} {Y : am_Y} (X : am_CX p R s m meth c D cA B cd nL mc ms ad0 K own bytes isI ret Y) {pc : Nat} {rs : List Nat} {im : Int32} {wl : List Nat} {is : List am_E} {ls : am_L} {st : List Value} {hp : am_H} {nc ns : Nat} (h : am_step K I Tc cd mc ms Q (am_PW p l e R s m args below meth c Qf D cA B cd nL mc ms n0 ad0) ((pc, .idiv, rs, im, wl) :: is, ls, st, hp, nc, ns)) : (am_PW p l e R s m args below meth c Qf D cA B cd nL mc ms n0 ad0) ((pc, .idiv, rs, im, wl) :: is, ls, st, hp, nc, ns) := by
  intro ad H locs la hr
  obtain ⟨hx, hb, hml, hown, hisI, hTW, hK, hCU, hBs, hRc, hRf, hV⟩ := X
  have hok := hV _ _ hr.1.1
  obtain ⟨hdg, hpc⟩ := am_d_spec hok
  dsimp only [am_step] at h
  split at h
  · have k := h.2 ad H locs la hr.tl
    dsimp only at k
    rw [hpc] at k
    exact lv_idiv hx hb hdg h.1 k
  · exact h.elim
set_option maxHeartbeats 1000000 in
theorem am_s_irem {p : Program} {l : Launch} {e : Env} {R : Room} {s : State} {m : MethodId} {args : Array Value} {below : List Frame} {meth : Method} {c : Code} {Qf : State → Prop} {D : va_G} {cA : Nat → ClassId} {B : Nat} {cd : List am_E} {nL mc ms n0 : Nat} {ad0 : Nat → Nat} {K : am_K} {I : am_I} {Tc : am_T} {Q : Option Value → am_H → Prop} {own : String} {bytes : ByteArray} {isI : Bool} {ret : Option FieldType} {Y : am_Y} (X : am_CX p R s m meth c D cA B cd nL mc ms ad0 K own bytes isI ret Y) {pc : Nat} {rs : List Nat} {im : Int32} {wl : List Nat} {is : List am_E} {ls : am_L} {st : List Value} {hp : am_H} {nc ns : Nat} (h : am_step K I Tc cd mc ms Q (am_PW p l e R s m args below meth c Qf D cA B cd nL mc ms n0 ad0) ((pc, .irem, rs, im, wl) :: is, ls, st, hp, nc, ns)) : (am_PW p l e R s m args below meth c Qf D cA B cd nL mc ms n0 ad0) ((pc, .irem, rs, im, wl) :: is, ls, st, hp, nc, ns) := by
  intro ad H locs la hr
  obtain ⟨hx, hb, hml, hown, hisI, hTW, hK, hCU, hBs, hRc, hRf, hV⟩ := X
  have hok := hV _ _ hr.1.1
  obtain ⟨hdg, hpc⟩ := am_d_spec hok
  dsimp only [am_step] at h
  split at h
  · have k := h.2 ad H locs la hr.tl
    dsimp only at k
    rw [hpc] at k
    exact lv_irem hx hb hdg h.1 k
  · exact h.elim
set_option maxHeartbeats 1000000 in
theorem am_s_goto {p : Program} {l : Launch} {e : Env} {R : Room} {s : State} {m : MethodId} {args : Array Value} {below : List Frame} {meth : Method} {c : Code} {Qf : State → Prop} {D : va_G} {cA : Nat → ClassId} {B : Nat} {cd : List am_E} {nL mc ms n0 : Nat} {ad0 : Nat → Nat} {K : am_K} {I : am_I} {Tc : am_T} {Q : Option Value → am_H → Prop} {own : String} {bytes : ByteArray} {isI : Bool} {ret : Option FieldType} {Y : am_Y} (X : am_CX p R s m meth c D cA B cd nL mc ms ad0 K own bytes isI ret Y) {pc : Nat} {off : Int} {rs : List Nat} {im : Int32} {wl : List Nat} {is : List am_E} {ls : am_L} {st : List Value} {hp : am_H} {nc ns : Nat} (h : am_step K I Tc cd mc ms Q (am_PW p l e R s m args below meth c Qf D cA B cd nL mc ms n0 ad0) ((pc, .goto off, rs, im, wl) :: is, ls, st, hp, nc, ns)) : (am_PW p l e R s m args below meth c Qf D cA B cd nL mc ms n0 ad0) ((pc, .goto off, rs, im, wl) :: is, ls, st, hp, nc, ns) := by
  intro ad H locs la hr
  obtain ⟨hx, hb, hml, hown, hisI, hTW, hK, hCU, hBs, hRc, hRf, hV⟩ := X
  have hok := hV _ _ hr.1.1
  obtain ⟨hd, hv⟩ := (Bool.and_eq_true _ _).mp hok
  have hdg : decode bytes pc = .ok (.goto off, 3) := of_decide_eq_true hd
  dsimp only [am_step] at h
  split at h
  · rename_i t
    have k := h ad H locs la (hr.go (List.drop_suffix t cd))
    exact lv_goto hx hb hdg (am_j_spec hv) k
  · exact h.elim
set_option maxHeartbeats 1000000 in
theorem am_s_if_icmp {p : Program} {l : Launch} {e : Env} {R : Room} {s : State} {m : MethodId} {args : Array Value} {below : List Frame} {meth : Method} {c : Code} {Qf : State → Prop} {D : va_G} {cA : Nat → ClassId} {B : Nat} {cd : List am_E} {nL mc ms n0 : Nat} {ad0 : Nat → Nat} {K : am_K} {I : am_I} {Tc : am_T} {Q : Option Value → am_H → Prop} {own : String} {bytes : ByteArray} {isI : Bool} {ret : Option FieldType} {Y : am_Y} (X : am_CX p R s m meth c D cA B cd nL mc ms ad0 K own bytes isI ret Y) {pc : Nat} {cnd : Jvm.ClassFile.Cond} {off : Int} {rs : List Nat} {im : Int32} {wl : List Nat} {is : List am_E} {ls : am_L} {st : List Value} {hp : am_H} {nc ns : Nat} (h : am_step K I Tc cd mc ms Q (am_PW p l e R s m args below meth c Qf D cA B cd nL mc ms n0 ad0) ((pc, .if_icmp cnd off, rs, im, wl) :: is, ls, st, hp, nc, ns)) : (am_PW p l e R s m args below meth c Qf D cA B cd nL mc ms n0 ad0) ((pc, .if_icmp cnd off, rs, im, wl) :: is, ls, st, hp, nc, ns) := by
  intro ad H locs la hr
  obtain ⟨hx, hb, hml, hown, hisI, hTW, hK, hCU, hBs, hRc, hRf, hV⟩ := X
  have hok := hV _ _ hr.1.1
  obtain ⟨hd, hv⟩ := (Bool.and_eq_true _ _).mp hok
  obtain ⟨hdg, hpc⟩ := am_d_spec hd
  dsimp only [am_step] at h
  split at h
  · have ht := am_j_spec hv
    cases cnd
    · exact lv_icmp_eq hx hb hdg ht (fun cc => h.1 cc ad H locs la (hr.go (List.drop_suffix _ cd))) (fun cc => by
        have k := h.2 cc ad H locs la hr.tl
        dsimp only at k
        rw [hpc] at k
        exact k)
    · exact lv_icmp_ne hx hb hdg ht (fun cc => h.1 cc ad H locs la (hr.go (List.drop_suffix _ cd))) (fun cc => by
        have k := h.2 cc ad H locs la hr.tl
        dsimp only at k
        rw [hpc] at k
        exact k)
    · exact lv_icmp_lt hx hb hdg ht (fun cc => h.1 cc ad H locs la (hr.go (List.drop_suffix _ cd))) (fun cc => by
        have k := h.2 cc ad H locs la hr.tl
        dsimp only at k
        rw [hpc] at k
        exact k)
    · exact lv_icmp_ge hx hb hdg ht (fun cc => h.1 cc ad H locs la (hr.go (List.drop_suffix _ cd))) (fun cc => by
        have k := h.2 cc ad H locs la hr.tl
        dsimp only at k
        rw [hpc] at k
        exact k)
    · exact lv_icmp_gt hx hb hdg ht (fun cc => h.1 cc ad H locs la (hr.go (List.drop_suffix _ cd))) (fun cc => by
        have k := h.2 cc ad H locs la hr.tl
        dsimp only at k
        rw [hpc] at k
        exact k)
    · exact lv_icmp_le hx hb hdg ht (fun cc => h.1 cc ad H locs la (hr.go (List.drop_suffix _ cd))) (fun cc => by
        have k := h.2 cc ad H locs la hr.tl
        dsimp only at k
        rw [hpc] at k
        exact k)
  · exact h.elim
set_option maxHeartbeats 1000000 in
theorem am_s_ifCond {p : Program} {l : Launch} {e : Env} {R : Room} {s : State} {m : MethodId} {args : Array Value} {below : List Frame} {meth : Method} {c : Code} {Qf : State → Prop} {D : va_G} {cA : Nat → ClassId} {B : Nat} {cd : List am_E} {nL mc ms n0 : Nat} {ad0 : Nat → Nat} {K : am_K} {I : am_I} {Tc : am_T} {Q : Option Value → am_H → Prop} {own : String} {bytes : ByteArray} {isI : Bool} {ret : Option FieldType} {Y : am_Y} (X : am_CX p R s m meth c D cA B cd nL mc ms ad0 K own bytes isI ret Y) {pc : Nat} {cnd : Jvm.ClassFile.Cond} {off : Int} {rs : List Nat} {im : Int32} {wl : List Nat} {is : List am_E} {ls : am_L} {st : List Value} {hp : am_H} {nc ns : Nat} (h : am_step K I Tc cd mc ms Q (am_PW p l e R s m args below meth c Qf D cA B cd nL mc ms n0 ad0) ((pc, .ifCond cnd off, rs, im, wl) :: is, ls, st, hp, nc, ns)) : (am_PW p l e R s m args below meth c Qf D cA B cd nL mc ms n0 ad0) ((pc, .ifCond cnd off, rs, im, wl) :: is, ls, st, hp, nc, ns) := by
  intro ad H locs la hr
  obtain ⟨hx, hb, hml, hown, hisI, hTW, hK, hCU, hBs, hRc, hRf, hV⟩ := X
  have hok := hV _ _ hr.1.1
  obtain ⟨hd, hv⟩ := (Bool.and_eq_true _ _).mp hok
  obtain ⟨hdg, hpc⟩ := am_d_spec hd
  dsimp only [am_step] at h
  split at h
  · have ht := am_j_spec hv
    cases cnd
    · exact lv_if_eq hx hb hdg ht (fun cc => h.1 cc ad H locs la (hr.go (List.drop_suffix _ cd))) (fun cc => by
        have k := h.2 cc ad H locs la hr.tl
        dsimp only at k
        rw [hpc] at k
        exact k)
    · exact lv_if_ne hx hb hdg ht (fun cc => h.1 cc ad H locs la (hr.go (List.drop_suffix _ cd))) (fun cc => by
        have k := h.2 cc ad H locs la hr.tl
        dsimp only at k
        rw [hpc] at k
        exact k)
    · exact lv_if_lt hx hb hdg ht (fun cc => h.1 cc ad H locs la (hr.go (List.drop_suffix _ cd))) (fun cc => by
        have k := h.2 cc ad H locs la hr.tl
        dsimp only at k
        rw [hpc] at k
        exact k)
    · exact lv_if_ge hx hb hdg ht (fun cc => h.1 cc ad H locs la (hr.go (List.drop_suffix _ cd))) (fun cc => by
        have k := h.2 cc ad H locs la hr.tl
        dsimp only at k
        rw [hpc] at k
        exact k)
    · exact lv_if_gt hx hb hdg ht (fun cc => h.1 cc ad H locs la (hr.go (List.drop_suffix _ cd))) (fun cc => by
        have k := h.2 cc ad H locs la hr.tl
        dsimp only at k
        rw [hpc] at k
        exact k)
    · exact lv_if_le hx hb hdg ht (fun cc => h.1 cc ad H locs la (hr.go (List.drop_suffix _ cd))) (fun cc => by
        have k := h.2 cc ad H locs la hr.tl
        dsimp only at k
        rw [hpc] at k
        exact k)
  · exact h.elim
