/-! ===== the constructors' run, reckoned ===== -/
abbrev ex_U : Type := List (Nat × Nat × Int32)
def ex_den : ex_U → am_V
  | [] => fun _ _ => 0
  | (k, j, x) :: r => am_up (ex_den r) k j x
def ex_w : am_X := fun _ _ => 0
def ex_all (n : Nat) : ex_U → Bool
  | [] => true
  | a :: r => Nat.blt a.1 n && ex_all n r
theorem ex_zero {n : Nat} : ∀ {us : ex_U}, ex_all n us = true → ∀ k j, n ≤ k → ex_den us k j = 0
  | [], _, _, _, _ => rfl
  | (k0, j0, x) :: r, h, k, j, hk => by
    obtain ⟨h1, h2⟩ := (Bool.and_eq_true _ _).mp h
    have h1 : k0 < n := Nat.le_of_ble_eq_true h1
    show am_up (ex_den r) k0 j0 x k j = 0
    rw [am_up_eq, if_neg (fun q => by have := q.1; omega)]
    exact ex_zero h2 k j hk
abbrev ex_R : Type := am_L × List Value × List am_S × ex_U × Nat × Nat
def ex_vin (i : Int32) (n : Nat) : Bool := !(decide (i < 0)) && !(decide (n ≤ i.toNatClampNeg))
def ex1 (mc ms : Nat) (ins : Instr) (rs : List Nat) (im : Int32) (ls : am_L) (st : List Value) (sh : List am_S) (us : ex_U) (nc ns : Nat) : Option ex_R := match ins with
  | .iconst _ => some (ls, .int im :: st, sh, us, nc, ns)
  | .bipush _ => some (ls, .int im :: st, sh, us, nc, ns)
  | .sipush _ => some (ls, .int im :: st, sh, us, nc, ns)
  | .aload_n _ => match rs with
    | [i] => match am_get ls i with
      | some (.ref x) => some (ls, .ref x :: st, sh, us, nc, ns)
      | _ => none
    | _ => none
  | .dup => match st with
    | .ref x :: r => some (ls, .ref x :: .ref x :: r, sh, us, nc, ns)
    | _ => none
  | .getfield _ => match rs, st with
    | j :: 2 :: cs, .ref k :: r => match am_at sh k with
      | some (kd, _, q) => match am_mem kd cs with
        | true => match am_nth q j with
          | some (some a) => some (ls, .ref a :: r, sh, us, nc, ns)
          | _ => none
        | false => none
      | none => none
    | _, _ => none
  | .putfield _ => match rs, st with
    | j :: f :: cs, v :: .ref k :: r => match am_at sh k with
      | some (kd, n, q) => match am_mem kd cs with
        | true => match f, v with
          | 0, .int x => some (ls, r, sh, (k, j, x) :: us, nc, ns)
          | 1, .int x => match decide (x = 0 ∨ x = 1) with
            | true => some (ls, r, sh, (k, j, x) :: us, nc, ns)
            | false => none
          | 2, .ref a => match Nat.blt j q.length with
            | true => some (ls, r, am_setS sh k (kd, n, am_setR q j (some a)), us, nc, ns)
            | false => none
          | _, _ => none
        | false => none
      | none => none
    | _, _ => none
  | .iastore => match st with
    | .int x :: .int i :: .ref k :: r => match am_at sh k with
      | some (100, n, _) => match ex_vin i n with
        | true => some (ls, r, sh, (k, i.toNatClampNeg, x) :: us, nc, ns)
        | false => none
      | _ => none
    | _ => none
  | .new _ => match rs with
    | [ci, n] => match am_rl sh.length ls && (am_rs sh.length st && (am_rh sh.length sh && Nat.blt sh.length 1000)) with
      | true => match Nat.ble (nc + 1) mc && (Nat.ble (ns + n) ms && ex_all sh.length us) with
        | true => some (ls, .ref sh.length :: st, sh ++ [(ci, 0, am_nones n)], us, nc + 1, ns + n)
        | false => none
      | false => none
    | _ => none
  | .newarray _ => match rs, st with
    | [kd, n], .int x :: r => match am_rl sh.length ls && (am_rs sh.length r && (am_rh sh.length sh && Nat.blt sh.length 1000)) with
      | true => match decide (x = im) && (Nat.ble (nc + 1) mc && (Nat.ble (ns + n) ms && ex_all sh.length us)) with
        | true => some (ls, .ref sh.length :: r, sh ++ [(kd, n, [])], us, nc + 1, ns + n)
        | false => none
      | false => none
    | _, _ => none
  | .multianewarray _ _ => match rs, st with
    | [n, k], .int y :: .int x :: r => match am_rl sh.length ls && (am_rs sh.length r && (am_rh sh.length sh && Nat.blt (sh.length + n) 1000)) with
      | true => match decide (x = im) && (decide (y = im) && (Nat.ble (nc + (1 + n)) mc && (Nat.ble (ns + (n + n * k)) ms && ex_all sh.length us))) with
        | true => some (ls, .ref sh.length :: r, sh ++ ((104, n, am_rows (sh.length + 1) n) :: am_reps n (100, k, [])), us, nc + (1 + n), ns + (n + n * k))
        | false => none
      | false => none
    | _, _ => none
  | _ => none
section M97
variable {K : am_K} {I : am_I} {Tc : am_T} {cd : List am_E} {mc ms : Nat} {Q : Option Value → am_H → Prop} {P : am_C → Prop}
set_option maxRecDepth 100000 in
set_option maxHeartbeats 4000000 in
theorem ex1_snd {pc : Nat} {ins : Instr} {rs : List Nat} {im : Int32} {wl : List Nat} {is : List am_E} {ls : am_L} {st : List Value} {sh : List am_S} {us : ex_U} {nc ns : Nat} {ls2 : am_L} {st2 : List Value} {sh2 : List am_S} {us2 : ex_U} {nc2 ns2 : Nat} (h : ex1 mc ms ins rs im ls st sh us nc ns = some (ls2, st2, sh2, us2, nc2, ns2)) (hP : P (is, ls2, st2, (sh2, ex_den us2, ex_w), nc2, ns2)) : am_step K I Tc cd mc ms Q P ((pc, ins, rs, im, wl) :: is, ls, st, (sh, ex_den us, ex_w), nc, ns) := by
  cases ins <;> first | exact nomatch (show (none : Option ex_R) = some (ls2, st2, sh2, us2, nc2, ns2) from h) | skip
  case iconst => cases h; exact hP
  case bipush => cases h; exact hP
  case sipush => cases h; exact hP
  case aload_n =>
    simp only [ex1] at h
    split at h
    · split at h
      · rename_i hg
        cases h
        simp only [am_step, hg]
        exact hP
      · cases h
    · cases h
  case dup =>
    simp only [ex1] at h
    split at h
    · cases h
      exact hP
    · cases h
  case getfield =>
    simp only [ex1] at h
    split at h
    · split at h
      · rename_i hat
        split at h
        · rename_i hm
          split at h
          · rename_i hn
            cases h
            simp only [am_step, hat, hm, hn]
            exact hP
          · cases h
        · cases h
      · cases h
    · cases h
  case putfield =>
    simp only [ex1] at h
    split at h
    · split at h
      · rename_i hat
        split at h
        · rename_i hm
          split at h
          · cases h
            simp only [am_step, hat, hm]
            exact hP
          · split at h
            · rename_i hx
              cases h
              simp only [am_step, hat, hm]
              exact ⟨of_decide_eq_true hx, hP⟩
            · cases h
          · split at h
            · rename_i hb
              cases h
              simp only [am_step, hat, hm, hb]
              exact hP
            · cases h
          · cases h
        · cases h
      · cases h
    · cases h
  case iastore =>
    simp only [ex1] at h
    split at h
    · split at h
      · rename_i hat
        split at h
        · rename_i hv
          cases h
          simp only [am_step, hat]
          refine ⟨fun q => ?_, hP⟩
          unfold ex_vin at hv
          obtain ⟨v1, v2⟩ := (Bool.and_eq_true _ _).mp hv
          rcases q with q | q
          · simp [q] at v1
          · simp [q] at v2
        · cases h
      · cases h
    · cases h
  case new =>
    simp only [ex1] at h
    split at h
    · split at h
      · rename_i hb
        split at h
        · rename_i hc
          cases h
          obtain ⟨c1, c2⟩ := (Bool.and_eq_true _ _).mp hc
          obtain ⟨c2, c3⟩ := (Bool.and_eq_true _ _).mp c2
          simp only [am_step, hb]
          exact ⟨⟨Nat.le_of_ble_eq_true c1, Nat.le_of_ble_eq_true c2, fun j => ex_zero c3 _ j (Nat.le_refl _)⟩, hP⟩
        · cases h
      · cases h
    · cases h
  case newarray =>
    simp only [ex1] at h
    split at h
    · split at h
      · rename_i hb
        split at h
        · rename_i hc
          cases h
          obtain ⟨c0, c1⟩ := (Bool.and_eq_true _ _).mp hc
          obtain ⟨c1, c2⟩ := (Bool.and_eq_true _ _).mp c1
          obtain ⟨c2, c3⟩ := (Bool.and_eq_true _ _).mp c2
          simp only [am_step, hb]
          exact ⟨⟨of_decide_eq_true c0, Nat.le_of_ble_eq_true c1, Nat.le_of_ble_eq_true c2, fun j => ex_zero c3 _ j (Nat.le_refl _), fun j => rfl⟩, hP⟩
        · cases h
      · cases h
    · cases h
  case multianewarray =>
    simp only [ex1] at h
    split at h
    · split at h
      · rename_i hb
        split at h
        · rename_i hc
          cases h
          obtain ⟨c0, c1⟩ := (Bool.and_eq_true _ _).mp hc
          obtain ⟨c01, c1⟩ := (Bool.and_eq_true _ _).mp c1
          obtain ⟨c1, c2⟩ := (Bool.and_eq_true _ _).mp c1
          obtain ⟨c2, c3⟩ := (Bool.and_eq_true _ _).mp c2
          simp only [am_step, hb]
          exact ⟨⟨of_decide_eq_true c0, of_decide_eq_true c01, Nat.le_of_ble_eq_true c1, Nat.le_of_ble_eq_true c2, fun i j _ => ex_zero c3 _ j (by omega)⟩, hP⟩
        · cases h
      · cases h
    · cases h
end M97
abbrev ex_T : Type := Nat → List Value → List am_S → ex_U → Nat → Nat → Option (List am_S × ex_U)
/-- a list that goes straight on, to its end -/
def ex_go (T : ex_T) (mc ms : Nat) : List am_E → am_L → List Value → List am_S → ex_U → Nat → Nat → Option (List am_S × ex_U)
  | [], _, _, _, _, _, _ => none
  | (_, ins, rs, im, _) :: is, ls, st, sh, us, nc, ns => match ins with
    | .return_ => match st with
      | [] => some (sh, us)
      | _ => none
    | .invokespecial _ => match rs with
      | [3, n, mid, c2, s2] => match am_pop n [] st with
        | some (.ref k :: as, r) => match Nat.ble (am_ws r) 8 && (am_rl sh.length ls && am_rs sh.length r) with
          | true => match Nat.ble (nc + c2) mc && Nat.ble (ns + s2) ms with
            | true => match T mid (.ref k :: as) sh us c2 s2 with
              | some (sh2, us2) => ex_go T mc ms is ls r sh2 us2 (nc + c2) (ns + s2)
              | none => none
            | false => none
          | false => none
        | _ => none
      | [2, 0] => match Nat.ble (am_ws st) 8 with
        | true => match st with
          | .ref _ :: r => ex_go T mc ms is ls r sh us nc ns
          | _ => none
        | false => none
      | _ => none
    | i => match ex1 mc ms i rs im ls st sh us nc ns with
      | some (ls2, st2, sh2, us2, nc2, ns2) => ex_go T mc ms is ls2 st2 sh2 us2 nc2 ns2
      | none => none
set_option maxRecDepth 100000 in
set_option maxHeartbeats 4000000 in
theorem ex_go_snd {K : am_K} {I : am_I} {Tc : am_T} {cd : List am_E} {mc ms : Nat} {Q : Option Value → am_H → Prop} {P : am_C → Prop} {T : ex_T} (hP : ∀ c, am_step K I Tc cd mc ms Q P c → P c) (hT : ∀ (mid : Nat) (as : List Value) (sh : List am_S) (us : ex_U) (c2 s2 : Nat) (sh2 : List am_S) (us2 : ex_U) (Q2 : Option Value → am_H → Prop), T mid as sh us c2 s2 = some (sh2, us2) → Q2 none (sh2, ex_den us2, ex_w) → Tc mid as (sh, ex_den us, ex_w) c2 s2 Q2) {sh2 : List am_S} {us2 : ex_U} (hQ : Q none (sh2, ex_den us2, ex_w)) : ∀ (is : List am_E) (ls : am_L) (st : List Value) (sh : List am_S) (us : ex_U) (nc ns : Nat), ex_go T mc ms is ls st sh us nc ns = some (sh2, us2) → P (is, ls, st, (sh, ex_den us, ex_w), nc, ns) := by
  intro is
  induction is with
  | nil =>
    intro ls st sh us nc ns h
    cases h
  | cons q is ih =>
    intro ls st sh us nc ns h
    obtain ⟨pc, ins, rs, im, wl⟩ := q
    refine hP _ ?_
    unfold ex_go at h
    split at h
    · split at h
      · cases h
        exact hQ
      · cases h
    · split at h
      · split at h
        · rename_i hpop
          split at h
          · rename_i hb
            split at h
            · rename_i hc
              split at h
              · rename_i sh3 us3 ht
                obtain ⟨c1, c2⟩ := (Bool.and_eq_true _ _).mp hc
                simp only [am_step, hpop, hb]
                refine ⟨⟨Nat.le_of_ble_eq_true c1, Nat.le_of_ble_eq_true c2⟩, hT _ _ _ _ _ _ _ _ _ ht ?_⟩
                exact ih _ _ _ _ _ _ h
              · cases h
            · cases h
          · cases h
        · cases h
      · split at h
        · rename_i hw
          split at h
          · simp only [am_step, hw, am_prim]
            exact ih _ _ _ _ _ _ h
          · cases h
        · cases h
      · cases h
    · split at h
      · rename_i hx
        exact ex1_snd hx (ih _ _ _ _ _ _ h)
      · cases h
def ex_run (M : am_M) : Nat → ex_T
  | 0 => fun _ _ _ _ _ _ => none
  | d + 1 => fun mid as sh us mc ms => match Nat.ble (am_ws as) (M mid).2 with
    | true => ex_go (ex_run M d) mc ms (M mid).1 (am_ent (M mid).2 as) [] sh us 0 0
    | false => none
theorem ex_snd {K : am_K} {I : am_I} {M : am_M} : ∀ (d mid : Nat) (as : List Value) (sh : List am_S) (us : ex_U) (mc ms : Nat) (sh2 : List am_S) (us2 : ex_U) (Q : Option Value → am_H → Prop), ex_run M d mid as sh us mc ms = some (sh2, us2) → Q none (sh2, ex_den us2, ex_w) → am_run K I M d mid as (sh, ex_den us, ex_w) mc ms Q
  | 0, mid, as, sh, us, mc, ms, sh2, us2, Q, h, _ => by cases h
  | d + 1, mid, as, sh, us, mc, ms, sh2, us2, Q, h, hQ => by
    unfold ex_run at h
    split at h
    · rename_i hb
      refine ⟨hb, fun P hP => ?_⟩
      exact ex_go_snd hP (fun mid as sh us c2 s2 sh2 us2 Q2 h1 h2 => ex_snd d mid as sh us c2 s2 sh2 us2 Q2 h1 h2) hQ _ _ _ _ _ _ _ h
    · cases h
def ex_u1 : ex_U := [(36, 3, 1), (38, 3, 1), (37, 3, 1), (33, 3, 1), (35, 3, 1), (34, 3, 1), (30, 3, 1), (32, 3, 1), (31, 3, 1), (22, 5, -1)]
def ex_u2 : ex_U := (63, 7, 1) :: (63, 6, 1) :: (63, 13, 1) :: ex_u1
def ex_is (o : Option (List am_S × ex_U)) (r : List am_S × ex_U) : Bool := match o with
  | some q => decide (q = r)
  | none => false
theorem ex_is_t {o : Option (List am_S × ex_U)} {r : List am_S × ex_U} (h : ex_is o r = true) : o = some r := by
  unfold ex_is at h
  split at h
  · exact congrArg some (of_decide_eq_true h)
  · cases h
set_option maxRecDepth 100000 in
set_option maxHeartbeats 4000000 in
theorem ex_first : ex_run am_m 50 102 [.ref 0] [(10, 0, am_nones 14)] [] 61 4005 = some (am_sh.take 62, ex_u1) := ex_is_t (by decide +kernel)
set_option maxRecDepth 100000 in
set_option maxHeartbeats 4000000 in
theorem ex_second : ex_run am_m 50 137 [.ref 62] (am_sh.take 62 ++ [(11, 0, am_nones 63)]) ex_u1 42 62795 = some (am_sh, ex_u2) := ex_is_t (by decide +kernel)
