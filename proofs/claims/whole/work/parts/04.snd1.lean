/-! ===== the small machine's cells on the heap; what holds of a state; which instruction lists are right ===== -/
def am_v (ad : Nat → Nat) : Value → Value
  | .ref k => .ref (ad k)
  | v => v
def am_isR (ci j : Nat) : Bool := match vwCl[ci]? with
  | some (_, T, _) => !(decide ((T j).2.2.1 = "I") || decide ((T j).2.2.1 = "Z"))
  | none => false
def am_nf (ci : Nat) : Nat := match vwCl[ci]? with
  | some (_, _, N) => N
  | none => 0
def am_fv (ad : Nat → Nat) (v : am_V) (k ci : Nat) (q : List (Option Nat)) (j : Nat) : Value := match am_isR ci j with
  | true => va_rf ((q.getD j none).map ad)
  | false => .int (v k j)
def am_fs (ad : Nat → Nat) (v : am_V) (k ci : Nat) (q : List (Option Nat)) : List Value := (List.range (am_nf ci)).map (am_fv ad v k ci q)
def am_cell (cA : Nat → ClassId) (ad : Nat → Nat) (v : am_V) (w : am_X) (k : Nat) (s : am_S) : va_E :=
  if s.1 < 100 then .inr (s.1, am_fs ad v k s.1 s.2.2)
  else if s.1 = 103 then .inl (cA 103, s.2.1, .inr (.inl (w k)))
  else if s.1 = 104 then .inl (cA 104, s.2.1, .inr (.inr (.inr (.inr (fun j => (s.2.2.getD j none).map ad)))))
  else .inl (cA s.1, s.2.1, .inl (v k))
def am_cw (cA : Nat → ClassId) (ad : Nat → Nat) (hp : am_H) : va_W := hp.1.mapIdx (fun k s => (ad k, am_cell cA ad hp.2.1 hp.2.2 k s))
def am_tys (cA : Nat → ClassId) : List (ClassId × FieldType) := [(cA 100, .int), (cA 101, .boolean), (cA 102, .byte), (cA 103, .long), (cA 104, .array .int)]
def am_LV (ad : Nat → Nat) (ls : am_L) (la : Array Slot) (nL : Nat) : Prop := la.size = nL ∧ lv_wf la ∧ (∀ (i : Nat) (v : Value), am_get ls i = some v → la[i]? = some (.val (am_v ad v))) ∧ ls.length = nL
def am_pcl : List am_E → Nat
  | [] => 0
  | e :: _ => e.1
def am_isAC (comp : ClassId) (x : Class) : Bool := match x.kind with
  | .array component _ => component == comp
  | _ => false
theorem am_idx_bare (vm : Vm) (comp : ClassId) : vm.bare.classes.findIdx? (am_isAC comp) = vm.classes.findIdx? (am_isAC comp) := by
  simp only [Vm.bare, Array.findIdx?_map]
  rfl
theorem am_over_spec {s : State} {t : FieldType} {a : Array Value} (h : (Jvm.Cond.arrayOver (.array t)).before a s = true) :
    ∃ (comp c : ClassId) (k : Class), s.vm.findClass (FieldType.array t).toString = some comp ∧ s.vm.classes.findIdx? (am_isAC comp) = some c ∧ s.vm.classes[c]? = some k ∧ k.kind = .array comp (.array t) ∧ s.vm.findClass ("[" ++ (FieldType.array t).toString) = some c := by
  unfold Jvm.Cond.before at h
  simp only [Cond.holds, Cond.value, beq_iff_eq] at h
  cases hc : s.vm.findClass (FieldType.array t).toString with
  | none => simp [hc] at h
  | some comp =>
    simp only [hc, Option.bind_some, Option.bind_eq_some_iff, Option.map_eq_some_iff] at h
    obtain ⟨c, hi, k, hk, hb⟩ := h
    obtain ⟨hlt, hp, -⟩ := Array.findIdx?_eq_some_iff_getElem.mp hi
    have hkk : s.vm.classes[c] = k := (Array.getElem?_eq_some_iff.mp hk).2
    rw [hkk] at hp
    cases hkind : k.kind with
    | array component ty =>
      rw [hkind] at hb hp
      simp at hb hp
      exact ⟨comp, c, k, rfl, hi, hk, by rw [hkind, hp, hb.1], hb.2⟩
    | _ => rw [hkind] at hb; simp at hb
theorem am_over_moved {t : FieldType} {u U : State} {a b : Array Value} (hvm : u.vm.Alike U.vm) (h : (Jvm.Cond.arrayOver (.array t)).before a u = true) : (Jvm.Cond.arrayOver (.array t)).before b U = true := by
  obtain ⟨comp, c, k, h1, h2, h3, h4, h5⟩ := am_over_spec h
  obtain ⟨k', hk', he⟩ := hvm.2.2 _ _ h3
  have hi : U.vm.classes.findIdx? (am_isAC comp) = some c := by
    rw [← am_idx_bare]
    first | rw [hvm.bare_eq] | rw [← hvm.bare_eq]
    rw [am_idx_bare]
    exact h2
  have hkind : k'.kind = .array comp (.array t) := by rw [he]; exact h4
  have f1 : U.vm.findClass (FieldType.array t).toString = some comp := by rw [hvm.findClass]; exact h1
  have f2 : U.vm.findClass ("[" ++ (FieldType.array t).toString) = some c := by rw [hvm.findClass]; exact h5
  unfold Cond.before Cond.holds
  simp only [Cond.value]
  rw [f1, Option.bind_some]
  refine (congrArg (fun o : Option Nat => (o.bind (fun c => (U.vm.classes[c]?).map fun (k : Class) => match k.kind with | .array _ ty => decide (ty = FieldType.array t) && decide (U.vm.findClass ("[" ++ (FieldType.array t).toString) = some c) | _ => false) == some true)) hi).trans ?_
  simp [hk', hkind, f2]
def am_okw (w : Jvm.Cond) : Bool := goodWord w || (match w with
  | .fieldLinkNest _ _ _ _ _ _ => true
  | .methodLinkNest _ _ _ _ => true
  | .declares _ => true
  | .arrayOver (.array _) => true
  | _ => false)
def am_TW (U : State) : Prop := ∀ w ∈ lw_tbl, am_okw w = true → ∀ a : Array Value, w.before a U = true
theorem am_TW.warm {s U : State} (hW : s.WarmedH U.vm) (h : am_TW s) : am_TW U := by
  intro w hw hok a
  have h0 := h w hw hok
  rcases (Bool.or_eq_true _ _).mp hok with hg | hg
  · exact word_at hW (good_of_word hg) (h0 a)
  · cases w <;> first | exact absurd (show false = true from hg) (by decide) | skip
    case arrayOver ty =>
      cases ty <;> first | exact absurd (show false = true from hg) (by decide) | skip
      exact am_over_moved hW.alike (h0 #[])
    case fieldLinkNest => exact va_Nw.use rfl (va_Nw.warmF hW (h0 #[]))
    case methodLinkNest => exact va_Nw.use rfl (va_Nw.warmM hW (h0 #[]))
    case declares => exact va_Nw.use rfl (va_Nw.warmD hW (h0 #[]))
theorem am_TW.at {s : State} (h : am_TW s) {i : Nat} {w : Jvm.Cond} (hi : lw_tbl[i]? = some w) (hok : am_okw w = true) (a : Array Value) : w.before a s = true := h w (List.mem_of_getElem? hi) hok a
theorem am_at_eq : ∀ (l : List am_S) (k : Nat), am_at l k = l[k]?
  | [], k => by cases k <;> rfl
  | _ :: _, 0 => rfl
  | _ :: as, k + 1 => am_at_eq as k
theorem am_nth_eq : ∀ (l : List (Option Nat)) (k : Nat), am_nth l k = l[k]?
  | [], k => by cases k <;> rfl
  | _ :: _, 0 => rfl
  | _ :: as, k + 1 => am_nth_eq as k
theorem am_cw_at {cA : Nat → ClassId} {ad : Nat → Nat} {hp : am_H} {k : Nat} {z : am_S} (h : am_at hp.1 k = some z) : (am_cw cA ad hp)[k]? = some (ad k, am_cell cA ad hp.2.1 hp.2.2 k z) := by
  rw [am_at_eq] at h
  simp [am_cw, h]
theorem am_fs_at {ad : Nat → Nat} {v : am_V} {k ci : Nat} {q : List (Option Nat)} {j : Nat} (h : j < am_nf ci) : (am_fs ad v k ci q)[j]? = some (am_fv ad v k ci q j) := by
  simp [am_fs, h]
theorem am_fs_len {ad : Nat → Nat} {v : am_V} {k ci : Nat} {q : List (Option Nat)} : (am_fs ad v k ci q).length = am_nf ci := by
  simp [am_fs]
