/-! ===== the machine does what the small machine does ===== -/
def am_RT (ret : Option FieldType) (ins : Instr) (o : Option Value) (st : List Value) : Prop := (∃ x : Int32, ins = .ireturn ∧ o = some (.int x) ∧ st = [.int x] ∧ (ret = some .int ∨ (ret = some .boolean ∧ (x = 0 ∨ x = 1)))) ∨ (∃ x : Int64, ins = .lreturn ∧ o = some (.long x) ∧ st = [.long x] ∧ ret = some .long) ∨ (∃ (k : Nat) (C : String), ins = .areturn ∧ o = some (.ref k) ∧ st = [.ref k] ∧ ret = some (.object C)) ∨ (ins = .return_ ∧ o = none ∧ st = [] ∧ ret = none)
set_option maxHeartbeats 4000000 in
theorem am_snd {p : Program} {l : Launch} {e : Env} {R : Room} {s : State} {m : MethodId} {args : Array Value} {below : List Frame} {meth : Method} {c : Code} {Qf : State → Prop} {D : va_G} {cA : Nat → ClassId} {B : Nat} {cd : List am_E} {nL mc ms n0 : Nat} {ad0 : Nat → Nat} {K : am_K} {I : am_I} {Tc : am_T} {Q : Option Value → am_H → Prop} {own : String} {bytes : ByteArray} {isI : Bool} {ret : Option FieldType} {Y : am_Y} {dd : Nat} (X : am_CX p R s m meth c D cA B cd nL mc ms ad0 K own bytes isI ret Y) (hI : am_IOK l B K I) (hTc : ∀ (mid : Nat) (as : List Value) (hp : am_H) (c2 s2 : Nat) (Q2 : Option Value → am_H → Prop), mid < am_N → Tc mid as hp c2 s2 Q2 → am_Met l Y D cA B K mid as hp c2 s2 Q2 dd) (hRd : dd + 9 ≤ R.frames ∧ 60 * dd + 460 ≤ R.locals) (hY : ∀ mid, mid < am_N → am_yok Y mid)
    (hret : ∀ {pc : Nat} {ins : Instr} {rs : List Nat} {im : Int32} {wl : List Nat} {is : List am_E} {ls : am_L} {st : List Value} {hp : am_H} {nc ns : Nat} {ad : Nat → Nat} {H : Heap} {locs : List Loc} {la : Array Slot}, am_Rel s D cA B cd nL mc ms n0 ad0 ((pc, ins, rs, im, wl) :: is, ls, st, hp, nc, ns) ad H locs la → decode bytes pc = .ok (ins, 1) → ∀ o : Option Value, Q o hp → am_RT ret ins o st → W p l e R s m args below meth c H locs nc ns Qf (F0 m pc la (st.map (am_v ad)))) :
    ∀ q : am_C, am_step K I Tc cd mc ms Q (am_PW p l e R s m args below meth c Qf D cA B cd nL mc ms n0 ad0) q → am_PW p l e R s m args below meth c Qf D cA B cd nL mc ms n0 ad0 q := by
  intro q h
  obtain ⟨is, ls, st, hp, nc, ns⟩ := q
  cases is with
  | nil => exact False.elim h
  | cons q is =>
  obtain ⟨pc, ins, rs, im, wl⟩ := q
  cases ins with
  | iconst _ => exact am_s_iconst X h
  | bipush _ => exact am_s_bipush X h
  | sipush _ => exact am_s_sipush X h
  | lconst _ => exact am_s_lconst X h
  | iload_n _ => exact am_s_iload_n X h
  | iload _ => exact am_s_iload X h
  | aload_n _ => exact am_s_aload_n X h
  | aload _ => exact am_s_aload X h
  | lload_n _ => exact am_s_lload_n X h
  | lload _ => exact am_s_lload X h
  | istore_n _ => exact am_s_istore_n X h
  | istore _ => exact am_s_istore X h
  | astore_n _ => exact am_s_astore_n X h
  | astore _ => exact am_s_astore X h
  | lstore_n _ => exact am_s_lstore_n X h
  | lstore _ => exact am_s_lstore X h
  | iinc _ _ => exact am_s_iinc X h
  | iadd => exact am_s_iadd X h
  | isub => exact am_s_isub X h
  | imul => exact am_s_imul X h
  | iand => exact am_s_iand X h
  | ior => exact am_s_ior X h
  | ixor => exact am_s_ixor X h
  | ishl => exact am_s_ishl X h
  | ishr => exact am_s_ishr X h
  | iushr => exact am_s_iushr X h
  | ineg => exact am_s_ineg X h
  | i2b => exact am_s_i2b X h
  | i2c => exact am_s_i2c X h
  | i2l => exact am_s_i2l X h
  | ladd => exact am_s_ladd X h
  | lcmp => exact am_s_lcmp X h
  | pop => exact am_s_pop X h
  | dup2 => exact am_s_dup2 X h
  | dup => exact am_s_dup X h
  | idiv => exact am_s_idiv X h
  | irem => exact am_s_irem X h
  | goto _ => exact am_s_goto X h
  | if_icmp _ _ => exact am_s_if_icmp X h
  | ifCond _ _ => exact am_s_ifCond X h
  | getfield _ => exact am_s_getfield X h
  | putfield _ => exact am_s_putfield X h
  | iaload => exact am_s_iaload X h
  | baload => exact am_s_baload X h
  | laload => exact am_s_laload X h
  | aaload => exact am_s_aaload X h
  | iastore => exact am_s_iastore X h
  | bastore => exact am_s_bastore X h
  | lastore => exact am_s_lastore X h
  | arraylength => exact am_s_arraylength X h
  | getstatic _ => exact am_s_getstatic X h
  | ldc _ => exact am_s_ldc X h
  | ldc_w _ => exact am_s_ldc_w X h
  | ldc2_w _ => exact am_s_ldc2_w X h
  | lookupswitch _ _ => exact am_s_lookupswitch X h
  | tableswitch _ _ _ _ => exact am_s_tableswitch X h
  | invokestatic _ => exact am_s_invokestatic X hI hTc hRd hY h
  | invokespecial _ => exact am_s_invokespecial X hI hTc hRd hY h
  | invokevirtual _ => exact am_s_invokevirtual X hI hTc hRd hY h
  | new _ => exact am_s_new X h
  | newarray _ => exact am_s_newarray X h
  | multianewarray _ _ => exact am_s_multianewarray X h
  | ireturn =>
    intro ad H locs la hr
    have hok := X.2.2.2.2.2.2.2.2.2.2.2 _ _ hr.1.1
    obtain ⟨hd, hv⟩ := (Bool.and_eq_true _ _).mp hok
    have hdg : decode bytes pc = .ok (.ireturn, 1) := of_decide_eq_true hd
    dsimp only [am_step] at h
    split at h
    · rename_i x
      have hv : decide (ret = some .int) = true := hv
      exact hret hr hdg _ h (Or.inl ⟨x, rfl, rfl, rfl, Or.inl (of_decide_eq_true hv)⟩)
    · rename_i x
      have hv : decide (ret = some .boolean) = true := hv
      exact hret hr hdg _ h.2 (Or.inl ⟨x, rfl, rfl, rfl, Or.inr ⟨of_decide_eq_true hv, h.1⟩⟩)
    · exact h.elim
  | lreturn =>
    intro ad H locs la hr
    have hok := X.2.2.2.2.2.2.2.2.2.2.2 _ _ hr.1.1
    obtain ⟨hd, hv⟩ := (Bool.and_eq_true _ _).mp hok
    have hdg : decode bytes pc = .ok (.lreturn, 1) := of_decide_eq_true hd
    dsimp only [am_step] at h
    split at h
    · rename_i x
      exact hret hr hdg _ h (Or.inr (Or.inl ⟨x, rfl, rfl, rfl, of_decide_eq_true hv⟩))
    · exact h.elim
  | areturn =>
    intro ad H locs la hr
    have hok := X.2.2.2.2.2.2.2.2.2.2.2 _ _ hr.1.1
    obtain ⟨hd, hv⟩ := (Bool.and_eq_true _ _).mp hok
    have hdg : decode bytes pc = .ok (.areturn, 1) := of_decide_eq_true hd
    dsimp only [am_step] at h
    split at h
    · rename_i x
      split at hv
      · exact hret hr hdg _ h (Or.inr (Or.inr (Or.inl ⟨x, _, rfl, rfl, rfl, rfl⟩)))
      · cases hv
    · exact h.elim
  | return_ =>
    intro ad H locs la hr
    have hok := X.2.2.2.2.2.2.2.2.2.2.2 _ _ hr.1.1
    obtain ⟨hd, hv⟩ := (Bool.and_eq_true _ _).mp hok
    have hdg : decode bytes pc = .ok (.return_, 1) := of_decide_eq_true hd
    dsimp only [am_step] at h
    split at h
    · exact hret hr hdg _ h (Or.inr (Or.inr (Or.inr ⟨rfl, rfl, rfl, of_decide_eq_true hv⟩)))
    · exact h.elim
  | _ => exact False.elim h
theorem am_ent_len : ∀ (n : Nat) (as : List Value), (am_ent n as).length = n
  | 0, _ => rfl
  | n + 1, [] => by simp [am_ent, am_ent_len n []]
  | n + 1, v :: vs => by
    unfold am_ent
    split
    · cases n with
      | zero => rfl
      | succ k => simp [am_ent_len k vs]
    · simp [am_ent_len n vs]
theorem am_isL_t {v : Value} (h : am_isL (some v) = true) : v.category = 2 := by cases v <;> simp [am_isL, Value.category] at h ⊢
theorem am_isL_f {v : Value} (h : am_isL (some v) = false) : v.category = 1 := by cases v <;> simp [am_isL, Value.category] at h ⊢
theorem am_ent_at {ad : Nat → Nat} : ∀ (n : Nat) (as : List Value) (b i : Nat) (v : Value), am_get (am_ent n as) i = some v → (b + i, am_v ad v) ∈ lv_args b (as.map (am_v ad))
  | 0, as, b, i, v, h => by simp [am_ent, am_get] at h
  | n + 1, [], b, i, v, h => by
    exfalso
    cases i with
    | zero => cases h
    | succ i =>
      have : ∀ (m j : Nat), am_get (am_ent m []) j = none := by
        intro m
        induction m with
        | zero => intro j; rfl
        | succ m ih => intro j; cases j with
          | zero => rfl
          | succ j => exact ih j
      rw [show am_get (am_ent (n + 1) []) (i + 1) = am_get (am_ent n []) i from rfl, this] at h
      cases h
  | n + 1, w :: vs, b, i, v, h => by
    unfold am_ent at h
    split at h
    · rename_i hL
      have hc : (am_v ad w).category = 2 := by rw [am_v_cat]; exact am_isL_t hL
      rw [List.map_cons]
      unfold lv_args
      simp only [hc, if_true]
      cases i with
      | zero =>
        cases h
        exact List.mem_cons_self
      | succ i => cases n with
        | zero => cases i <;> cases h
        | succ k => cases i with
          | zero => cases h
          | succ i =>
            have := am_ent_at (ad := ad) k vs (b + 2) i v h
            rw [show b + 2 + i = b + (i + 1 + 1) by omega] at this
            exact List.mem_cons_of_mem _ this
    · rename_i hL
      have hc : ¬ (am_v ad w).category = 2 := by rw [am_v_cat, am_isL_f hL]; decide
      rw [List.map_cons]
      unfold lv_args
      simp only [hc, if_false]
      cases i with
      | zero =>
        cases h
        exact List.mem_cons_self
      | succ i =>
        have := am_ent_at (ad := ad) n vs (b + 1) i v h
        rw [show b + 1 + i = b + (i + 1) by omega] at this
        exact List.mem_cons_of_mem _ this
theorem am_sl_len (ad : Nat → Nat) : ∀ as : List Value, (lg_sl (as.map (am_v ad))).length = am_ws as
  | [] => rfl
  | v :: vs => by
    have := am_sl_len ad vs
    cases v <;> simp [lg_sl, am_v, am_ws, Value.category] at this ⊢ <;> omega
