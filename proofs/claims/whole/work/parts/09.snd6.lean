/-! ===== arrays, constants, switches ===== -/
theorem am_cell_i {cA : Nat → ClassId} {ad : Nat → Nat} {v : am_V} {w : am_X} {k kd n : Nat} {q : List (Option Nat)} (h : kd = 100 ∨ kd = 101 ∨ kd = 102) : am_cell cA ad v w k (kd, n, q) = .inl (cA kd, n, .inl (v k)) := by
  rcases h with rfl | rfl | rfl <;> rfl
theorem am_cell_l {cA : Nat → ClassId} {ad : Nat → Nat} {v : am_V} {w : am_X} {k n : Nat} {q : List (Option Nat)} : am_cell cA ad v w k (103, n, q) = .inl (cA 103, n, .inr (.inl (w k))) := rfl
theorem am_cell_q {cA : Nat → ClassId} {ad : Nat → Nat} {v : am_V} {w : am_X} {k n : Nat} {q : List (Option Nat)} : am_cell cA ad v w k (104, n, q) = .inl (cA 104, n, .inr (.inr (.inr (.inr (fun j => (q.getD j none).map ad))))) := rfl
theorem am_setI {cA : Nat → ClassId} {ad : Nat → Nat} {hp : am_H} {k kd n j : Nat} {q : List (Option Nat)} {x : Int32} (hat : am_at hp.1 k = some (kd, n, q)) (h : kd = 100 ∨ kd = 101 ∨ kd = 102) : (am_cw cA ad hp).set k (ad k, .inl (cA kd, n, .inl (upd (hp.2.1 k) j x))) = am_cw cA ad (hp.1, am_up hp.2.1 k j x, hp.2.2) := am_cw_set hat (fun i => by
    by_cases e : i = k
    · rw [if_pos e, e, ← am_at_eq]; exact hat
    · rw [if_neg e]) (fun i y hi => am_cell_v y (am_up_ne _ _ _ hi) rfl) (by rw [am_cell_i h]; dsimp only; rw [am_up_same])
theorem am_setLo {cA : Nat → ClassId} {ad : Nat → Nat} {hp : am_H} {k n j : Nat} {q : List (Option Nat)} {x : Int64} (hat : am_at hp.1 k = some (103, n, q)) : (am_cw cA ad hp).set k (ad k, .inl (cA 103, n, .inr (.inl (vp_updL (hp.2.2 k) j x)))) = am_cw cA ad (hp.1, hp.2.1, am_upX hp.2.2 k j x) := am_cw_set hat (fun i => by
    by_cases e : i = k
    · rw [if_pos e, e, ← am_at_eq]; exact hat
    · rw [if_neg e]) (fun i y hi => am_cell_v y rfl (am_upX_ne _ _ _ hi)) (by rw [am_cell_l]; dsimp only; rw [am_upX_same])
theorem am_aald {p : Program} {l : Launch} {e : Env} {R : Room} {s : State} {m : MethodId} {args : Array Value} {below : List Frame} {meth : Method} {c : Code} {H : Heap} {locs : List Loc} {cells slots : Nat} {Q : State → Prop} {cc : ByteArray} {pc : Nat} {ls : Array Slot} {rest : List Value} {D : va_G} {cl : List vw_C} {a : Nat} {tys : List (ClassId × FieldType)} {ws : va_W} (hexec : p.tables.exec = Jvm.exec) (hb : c.code = cc) (hK : va_K D cl tys s) (hP : va_P D cl ws H) (q0 t0 : Nat) {cA : ClassId} {n : Nat} {f : Nat → Option Nat} (ha : ws[q0]? = some (a, .inl (cA, n, .inr (.inr (.inr (.inr f)))))) {ty : FieldType} (ht : tys[t0]? = some (cA, .array ty)) {i : Int32} (hin : vp_in i n) (hdg : decode cc pc = .ok (.aaload, 1))
    (kk : W p l e R s m args below meth c H locs cells slots Q (F0 m (pc + 1) ls (va_rf (f i.toNatClampNeg) :: rest))) : W p l e R s m args below meth c H locs cells slots Q (F0 m pc ls (.int i :: .ref a :: rest)) := by
  have hlt : i.toNatClampNeg < n := Nat.not_le.mp fun q => hin (Or.inr q)
  refine W.aald (v := va_rf (f i.toNatClampNeg)) (ty := .array ty) hexec hb (hP q0 _ ha) ((hK.2 t0 _ ht).1 n (fun j => va_rf (f j))) rfl (fun q => by cases q) (by show ¬ (i < 0 ∨ (arrV _ _ _).slots.size ≤ _); rw [arrV_size]; exact hin) (by show (arrV _ _ _).slots[_]? = _; rw [arrV_read _ _ hlt]) rfl rfl hdg kk
theorem am_tab_at {x : Int32} {f : Nat → Prop} : ∀ {ts : List Nat} {lo : Int32} {i t : Nat}, am_tab x f lo ts → ts[i]? = some t → x = lo + Int32.ofNat i → f t
  | [], _, _, _, _, h, _ => by simp at h
  | a :: ts, lo, 0, t, h, hi, hx => by
    cases hi
    exact h.1 (by rw [hx]; simp)
  | a :: ts, lo, i + 1, t, h, hi, hx => am_tab_at h.2 (by simpa using hi) (by rw [hx, Int32.ofNat_add, Int32.add_assoc, Int32.add_comm (Int32.ofNat i)]; rfl)
theorem am_tok_at {cd : List am_E} {pc : Nat} : ∀ {os : List Int} {ts : List Nat}, am_tok cd pc os ts = true → os.length = ts.length ∧ ∀ (i : Nat) (t : Nat), ts[i]? = some t → ∃ o, os[i]? = some o ∧ am_j cd pc o t = true
  | [], [], _ => ⟨rfl, fun i t h => by simp at h⟩
  | o :: os, t :: ts, h => by
    obtain ⟨h1, h2⟩ := (Bool.and_eq_true _ _).mp h
    obtain ⟨e, g⟩ := am_tok_at h2
    refine ⟨by simp [e], fun i t2 hi => ?_⟩
    cases i with
    | zero => cases hi; exact ⟨o, rfl, h1⟩
    | succ i => exact g i t2 (by simpa using hi)
  | [], _ :: _, h => by cases h
  | _ :: _, [], h => by cases h
theorem am_look_at {x : Int32} {f : Nat → Prop} {cd : List am_E} {pc d : Nat} {dflt : Int} (hd : am_j cd pc dflt d = true) : ∀ {ps : List (Int × Int)} {ts : List Nat}, am_lok cd pc ps ts = true → am_look x f d ts → ∃ (off : Int) (t : Nat), Op.lookupswitch.offset ps dflt x.toInt = off ∧ am_j cd pc off t = true ∧ f t
  | [], [], _, h => ⟨dflt, d, rfl, hd, h⟩
  | (k, o) :: ps, a :: t :: ts, hl, h => by
    obtain ⟨h1, h2⟩ := (Bool.and_eq_true _ _).mp hl
    obtain ⟨h3, h4⟩ := (Bool.and_eq_true _ _).mp h2
    have hk := of_decide_eq_true h1
    by_cases e : x = Int32.ofNat a
    · exact ⟨o, t, by rw [Op.lookupswitch.offset_cons, if_pos (by rw [e, hk])], h3, h.1 e⟩
    · obtain ⟨off, t2, g1, g2, g3⟩ := am_look_at hd h4 (h.2 e)
      exact ⟨off, t2, by rw [lv_osw e hk]; exact g1, g2, g3⟩
  | [], _ :: _, h, _ => by cases h
  | _ :: _, [], h, _ => by cases h
  | _ :: _, [_], h, _ => by cases h
set_option maxHeartbeats 1000000 in
theorem am_s_iaload {p : Program} {l : Launch} {e : Env} {R : Room} {s : State} {m : MethodId} {args : Array Value} {below : List Frame} {meth : Method} {c : Code} {Qf : State → Prop} {D : va_G} {cA : Nat → ClassId} {B : Nat} {cd : List am_E} {nL mc ms n0 : Nat} {ad0 : Nat → Nat} {K : am_K} {I : am_I} {Tc : am_T} {Q : Option Value → am_H → Prop} {own : String} {bytes : ByteArray} {isI : Bool} {ret : Option FieldType} {Y : am_Y} (X : am_CX p R s m meth c D cA B cd nL mc ms ad0 K own bytes isI ret Y) {pc : Nat} {rs : List Nat} {im : Int32} {wl : List Nat} {is : List am_E} {ls : am_L} {st : List Value} {hp : am_H} {nc ns : Nat} (h : am_step K I Tc cd mc ms Q (am_PW p l e R s m args below meth c Qf D cA B cd nL mc ms n0 ad0) ((pc, .iaload, rs, im, wl) :: is, ls, st, hp, nc, ns)) : (am_PW p l e R s m args below meth c Qf D cA B cd nL mc ms n0 ad0) ((pc, .iaload, rs, im, wl) :: is, ls, st, hp, nc, ns) := by
  intro ad H locs la hr
  obtain ⟨hx, hb, hml, hown, hisI, hTW, hK, hCU, hBs, hRc, hRf, hV⟩ := X
  have hok := hV _ _ hr.1.1
  obtain ⟨hdg, hpc⟩ := am_d_spec hok
  dsimp only [am_step] at h
  split at h
  · rename_i i k r
    split at h
    · rename_i n q hat
      have kk := h.2 ad H locs la hr.tl
      dsimp only at kk
      rw [hpc] at kk
      have he := am_cw_at (cA := cA) (ad := ad) hat
      exact va_iald hx hb hK hr.2.1 k 0 he rfl h.1 hdg kk
    · split at h
      · rename_i n f hk
        obtain ⟨h1, h2, h3⟩ := hCU.1 k n f hk
        have kk := h.2 ad H locs la hr.tl
        dsimp only at kk
        rw [hpc] at kk
        have e : ad k = ad0 k := hr.1.2.2.1 k (Or.inr h1)
        show W _ _ _ _ _ _ _ _ _ _ _ _ _ _ _ (F0 m pc la (.int i :: .ref (ad k) :: List.map (am_v ad) r))
        rw [e]
        exact va_sld hx hb h2 (Nat.lt_of_lt_of_le h3 hBs) (Nat.not_le.mpr h3) hr.2.2.2.1 h.1 hdg kk
      · exact h.elim
    · exact h.elim
  · exact h.elim
set_option maxHeartbeats 1000000 in
theorem am_s_baload {p : Program} {l : Launch} {e : Env} {R : Room} {s : State} {m : MethodId} {args : Array Value} {below : List Frame} {meth : Method} {c : Code} {Qf : State → Prop} {D : va_G} {cA : Nat → ClassId} {B : Nat} {cd : List am_E} {nL mc ms n0 : Nat} {ad0 : Nat → Nat} {K : am_K} {I : am_I} {Tc : am_T} {Q : Option Value → am_H → Prop} {own : String} {bytes : ByteArray} {isI : Bool} {ret : Option FieldType} {Y : am_Y} (X : am_CX p R s m meth c D cA B cd nL mc ms ad0 K own bytes isI ret Y) {pc : Nat} {rs : List Nat} {im : Int32} {wl : List Nat} {is : List am_E} {ls : am_L} {st : List Value} {hp : am_H} {nc ns : Nat} (h : am_step K I Tc cd mc ms Q (am_PW p l e R s m args below meth c Qf D cA B cd nL mc ms n0 ad0) ((pc, .baload, rs, im, wl) :: is, ls, st, hp, nc, ns)) : (am_PW p l e R s m args below meth c Qf D cA B cd nL mc ms n0 ad0) ((pc, .baload, rs, im, wl) :: is, ls, st, hp, nc, ns) := by
  intro ad H locs la hr
  obtain ⟨hx, hb, hml, hown, hisI, hTW, hK, hCU, hBs, hRc, hRf, hV⟩ := X
  have hok := hV _ _ hr.1.1
  obtain ⟨hdg, hpc⟩ := am_d_spec hok
  dsimp only [am_step] at h
  split at h
  · rename_i i k r
    split at h
    · rename_i n q hat
      have kk := h.2 ad H locs la hr.tl
      dsimp only at kk
      rw [hpc] at kk
      exact va_zald hx hb hK hr.2.1 k 1 (am_cw_at (cA := cA) (ad := ad) hat) rfl h.1 hdg kk
    · rename_i n q hat
      have kk := h.2 ad H locs la hr.tl
      dsimp only at kk
      rw [hpc] at kk
      exact va_bald hx hb hK hr.2.1 k 2 (am_cw_at (cA := cA) (ad := ad) hat) rfl h.1 hdg kk
    · exact h.elim
  · exact h.elim
set_option maxHeartbeats 1000000 in
theorem am_s_laload {p : Program} {l : Launch} {e : Env} {R : Room} {s : State} {m : MethodId} {args : Array Value} {below : List Frame} {meth : Method} {c : Code} {Qf : State → Prop} {D : va_G} {cA : Nat → ClassId} {B : Nat} {cd : List am_E} {nL mc ms n0 : Nat} {ad0 : Nat → Nat} {K : am_K} {I : am_I} {Tc : am_T} {Q : Option Value → am_H → Prop} {own : String} {bytes : ByteArray} {isI : Bool} {ret : Option FieldType} {Y : am_Y} (X : am_CX p R s m meth c D cA B cd nL mc ms ad0 K own bytes isI ret Y) {pc : Nat} {rs : List Nat} {im : Int32} {wl : List Nat} {is : List am_E} {ls : am_L} {st : List Value} {hp : am_H} {nc ns : Nat} (h : am_step K I Tc cd mc ms Q (am_PW p l e R s m args below meth c Qf D cA B cd nL mc ms n0 ad0) ((pc, .laload, rs, im, wl) :: is, ls, st, hp, nc, ns)) : (am_PW p l e R s m args below meth c Qf D cA B cd nL mc ms n0 ad0) ((pc, .laload, rs, im, wl) :: is, ls, st, hp, nc, ns) := by
  intro ad H locs la hr
  obtain ⟨hx, hb, hml, hown, hisI, hTW, hK, hCU, hBs, hRc, hRf, hV⟩ := X
  have hok := hV _ _ hr.1.1
  obtain ⟨hdg, hpc⟩ := am_d_spec hok
  dsimp only [am_step] at h
  split at h
  · rename_i i k r
    split at h
    · rename_i n q hat
      have kk := h.2 ad H locs la hr.tl
      dsimp only at kk
      rw [hpc] at kk
      exact va_lald hx hb hK hr.2.1 k 3 (am_cw_at (cA := cA) (ad := ad) hat) rfl h.1 hdg kk
    · exact h.elim
  · exact h.elim
set_option maxHeartbeats 1000000 in
theorem am_s_aaload {p : Program} {l : Launch} {e : Env} {R : Room} {s : State} {m : MethodId} {args : Array Value} {below : List Frame} {meth : Method} {c : Code} {Qf : State → Prop} {D : va_G} {cA : Nat → ClassId} {B : Nat} {cd : List am_E} {nL mc ms n0 : Nat} {ad0 : Nat → Nat} {K : am_K} {I : am_I} {Tc : am_T} {Q : Option Value → am_H → Prop} {own : String} {bytes : ByteArray} {isI : Bool} {ret : Option FieldType} {Y : am_Y} (X : am_CX p R s m meth c D cA B cd nL mc ms ad0 K own bytes isI ret Y) {pc : Nat} {rs : List Nat} {im : Int32} {wl : List Nat} {is : List am_E} {ls : am_L} {st : List Value} {hp : am_H} {nc ns : Nat} (h : am_step K I Tc cd mc ms Q (am_PW p l e R s m args below meth c Qf D cA B cd nL mc ms n0 ad0) ((pc, .aaload, rs, im, wl) :: is, ls, st, hp, nc, ns)) : (am_PW p l e R s m args below meth c Qf D cA B cd nL mc ms n0 ad0) ((pc, .aaload, rs, im, wl) :: is, ls, st, hp, nc, ns) := by
  intro ad H locs la hr
  obtain ⟨hx, hb, hml, hown, hisI, hTW, hK, hCU, hBs, hRc, hRf, hV⟩ := X
  have hok := hV _ _ hr.1.1
  obtain ⟨hdg, hpc⟩ := am_d_spec hok
  dsimp only [am_step] at h
  split at h
  · rename_i i k r
    split at h
    · rename_i n q hat
      obtain ⟨hin, h⟩ := h
      split at h
      · rename_i a hn
        have kk := h ad H locs la hr.tl
        dsimp only at kk
        rw [hpc] at kk
        refine am_aald hx hb hK hr.2.1 k 4 (am_cw_at (cA := cA) (ad := ad) hat) rfl hin hdg ?_
        rw [am_nth_eq] at hn
        rw [show va_rf ((fun j => (q.getD j none).map ad) i.toNatClampNeg) = .ref (ad a) by simp [hn, va_rf]]
        exact kk
      · exact h.elim
    · exact h.elim
  · exact h.elim
set_option maxHeartbeats 1000000 in
theorem am_s_iastore {p : Program} {l : Launch} {e : Env} {R : Room} {s : State} {m : MethodId} {args : Array Value} {below : List Frame} {meth : Method} {c : Code} {Qf : State → Prop} {D : va_G} {cA : Nat → ClassId} {B : Nat} {cd : List am_E} {nL mc ms n0 : Nat} {ad0 : Nat → Nat} {K : am_K} {I : am_I} {Tc : am_T} {Q : Option Value → am_H → Prop} {own : String} {bytes : ByteArray} {isI : Bool} {ret : Option FieldType} {Y : am_Y} (X : am_CX p R s m meth c D cA B cd nL mc ms ad0 K own bytes isI ret Y) {pc : Nat} {rs : List Nat} {im : Int32} {wl : List Nat} {is : List am_E} {ls : am_L} {st : List Value} {hp : am_H} {nc ns : Nat} (h : am_step K I Tc cd mc ms Q (am_PW p l e R s m args below meth c Qf D cA B cd nL mc ms n0 ad0) ((pc, .iastore, rs, im, wl) :: is, ls, st, hp, nc, ns)) : (am_PW p l e R s m args below meth c Qf D cA B cd nL mc ms n0 ad0) ((pc, .iastore, rs, im, wl) :: is, ls, st, hp, nc, ns) := by
  intro ad H locs la hr
  obtain ⟨hx, hb, hml, hown, hisI, hTW, hK, hCU, hBs, hRc, hRf, hV⟩ := X
  have hok := hV _ _ hr.1.1
  obtain ⟨hdg, hpc⟩ := am_d_spec hok
  dsimp only [am_step] at h
  split at h
  · rename_i x i k r
    split at h
    · rename_i n q hat
      refine va_iast hx hb hK hr.2.1 hr.2.2.1 hr.2.2.2.1 k 0 (am_cw_at (cA := cA) (ad := ad) hat) rfl h.1 hdg (fun H1 locs1 hP hD hS => ?_)
      rw [am_setI (cA := cA) (ad := ad) hat (Or.inl rfl)] at hP hD
      have kk := h.2 ad H1 locs1 la (hr.wr rfl hP hD hS)
      dsimp only at kk
      rw [hpc] at kk
      exact kk
    · exact h.elim
  · exact h.elim
set_option maxHeartbeats 1000000 in
theorem am_s_bastore {p : Program} {l : Launch} {e : Env} {R : Room} {s : State} {m : MethodId} {args : Array Value} {below : List Frame} {meth : Method} {c : Code} {Qf : State → Prop} {D : va_G} {cA : Nat → ClassId} {B : Nat} {cd : List am_E} {nL mc ms n0 : Nat} {ad0 : Nat → Nat} {K : am_K} {I : am_I} {Tc : am_T} {Q : Option Value → am_H → Prop} {own : String} {bytes : ByteArray} {isI : Bool} {ret : Option FieldType} {Y : am_Y} (X : am_CX p R s m meth c D cA B cd nL mc ms ad0 K own bytes isI ret Y) {pc : Nat} {rs : List Nat} {im : Int32} {wl : List Nat} {is : List am_E} {ls : am_L} {st : List Value} {hp : am_H} {nc ns : Nat} (h : am_step K I Tc cd mc ms Q (am_PW p l e R s m args below meth c Qf D cA B cd nL mc ms n0 ad0) ((pc, .bastore, rs, im, wl) :: is, ls, st, hp, nc, ns)) : (am_PW p l e R s m args below meth c Qf D cA B cd nL mc ms n0 ad0) ((pc, .bastore, rs, im, wl) :: is, ls, st, hp, nc, ns) := by
  intro ad H locs la hr
  obtain ⟨hx, hb, hml, hown, hisI, hTW, hK, hCU, hBs, hRc, hRf, hV⟩ := X
  have hok := hV _ _ hr.1.1
  obtain ⟨hdg, hpc⟩ := am_d_spec hok
  dsimp only [am_step] at h
  split at h
  · rename_i x i k r
    split at h
    · rename_i n q hat
      refine va_zast hx hb hK hr.2.1 hr.2.2.1 hr.2.2.2.1 k 1 (am_cw_at (cA := cA) (ad := ad) hat) rfl h.1 hdg (fun H1 locs1 hP hD hS => ?_)
      rw [am_setI (cA := cA) (ad := ad) hat (Or.inr (Or.inl rfl))] at hP hD
      have kk := h.2 ad H1 locs1 la (hr.wr rfl hP hD hS)
      dsimp only at kk
      rw [hpc] at kk
      exact kk
    · rename_i n q hat
      refine va_bast hx hb hK hr.2.1 hr.2.2.1 hr.2.2.2.1 k 2 (am_cw_at (cA := cA) (ad := ad) hat) rfl h.1 hdg (fun H1 locs1 hP hD hS => ?_)
      rw [am_setI (cA := cA) (ad := ad) hat (Or.inr (Or.inr rfl))] at hP hD
      have kk := h.2 ad H1 locs1 la (hr.wr rfl hP hD hS)
      dsimp only at kk
      rw [hpc] at kk
      exact kk
    · exact h.elim
  · exact h.elim
set_option maxHeartbeats 1000000 in
theorem am_s_lastore {p : Program} {l : Launch} {e : Env} {R : Room} {s : State} {m : MethodId} {args : Array Value} {below : List Frame} {meth : Method} {c : Code} {Qf : State → Prop} {D : va_G} {cA : Nat → ClassId} {B : Nat} {cd : List am_E} {nL mc ms n0 : Nat} {ad0 : Nat → Nat} {K : am_K} {I : am_I} {Tc : am_T} {Q : Option Value → am_H → Prop} {own : String} {bytes : ByteArray} {isI : Bool} {ret : Option FieldType} {Y : am_Y} (X : am_CX p R s m meth c D cA B cd nL mc ms ad0 K own bytes isI ret Y) {pc : Nat} {rs : List Nat} {im : Int32} {wl : List Nat} {is : List am_E} {ls : am_L} {st : List Value} {hp : am_H} {nc ns : Nat} (h : am_step K I Tc cd mc ms Q (am_PW p l e R s m args below meth c Qf D cA B cd nL mc ms n0 ad0) ((pc, .lastore, rs, im, wl) :: is, ls, st, hp, nc, ns)) : (am_PW p l e R s m args below meth c Qf D cA B cd nL mc ms n0 ad0) ((pc, .lastore, rs, im, wl) :: is, ls, st, hp, nc, ns) := by
  intro ad H locs la hr
  obtain ⟨hx, hb, hml, hown, hisI, hTW, hK, hCU, hBs, hRc, hRf, hV⟩ := X
  have hok := hV _ _ hr.1.1
  obtain ⟨hdg, hpc⟩ := am_d_spec hok
  dsimp only [am_step] at h
  split at h
  · rename_i x i k r
    split at h
    · rename_i n q hat
      refine va_last hx hb hK hr.2.1 hr.2.2.1 hr.2.2.2.1 k 3 (am_cw_at (cA := cA) (ad := ad) hat) rfl h.1 hdg (fun H1 locs1 hP hD hS => ?_)
      rw [am_setLo (cA := cA) (ad := ad) hat] at hP hD
      have kk := h.2 ad H1 locs1 la (hr.wr rfl hP hD hS)
      dsimp only at kk
      rw [hpc] at kk
      exact kk
    · exact h.elim
  · exact h.elim
set_option maxHeartbeats 1000000 in
theorem am_s_arraylength {p : Program} {l : Launch} {e : Env} {R : Room} {s : State} {m : MethodId} {args : Array Value} {below : List Frame} {meth : Method} {c : Code} {Qf : State → Prop} {D : va_G} {cA : Nat → ClassId} {B : Nat} {cd : List am_E} {nL mc ms n0 : Nat} {ad0 : Nat → Nat} {K : am_K} {I : am_I} {Tc : am_T} {Q : Option Value → am_H → Prop} {own : String} {bytes : ByteArray} {isI : Bool} {ret : Option FieldType} {Y : am_Y} (X : am_CX p R s m meth c D cA B cd nL mc ms ad0 K own bytes isI ret Y) {pc : Nat} {rs : List Nat} {im : Int32} {wl : List Nat} {is : List am_E} {ls : am_L} {st : List Value} {hp : am_H} {nc ns : Nat} (h : am_step K I Tc cd mc ms Q (am_PW p l e R s m args below meth c Qf D cA B cd nL mc ms n0 ad0) ((pc, .arraylength, rs, im, wl) :: is, ls, st, hp, nc, ns)) : (am_PW p l e R s m args below meth c Qf D cA B cd nL mc ms n0 ad0) ((pc, .arraylength, rs, im, wl) :: is, ls, st, hp, nc, ns) := by
  intro ad H locs la hr
  obtain ⟨hx, hb, hml, hown, hisI, hTW, hK, hCU, hBs, hRc, hRf, hV⟩ := X
  have hok := hV _ _ hr.1.1
  obtain ⟨hdg, hpc⟩ := am_d_spec hok
  dsimp only [am_step] at h
  split at h
  · rename_i k r
    split at h
    · rename_i n q hat
      have kk := h ad H locs la hr.tl
      dsimp only at kk
      rw [hpc] at kk
      exact va_alen hx hb hK hr.2.1 k 0 (am_cw_at (cA := cA) (ad := ad) hat) (ty := .int) rfl rfl hdg kk
    · rename_i n q hat
      have kk := h ad H locs la hr.tl
      dsimp only at kk
      rw [hpc] at kk
      exact va_alen hx hb hK hr.2.1 k 3 (am_cw_at (cA := cA) (ad := ad) hat) (ty := .long) rfl rfl hdg kk
    · split at h
      · rename_i n f hk
        obtain ⟨h1, h2, h3⟩ := hCU.1 k n f hk
        have kk := h ad H locs la hr.tl
        dsimp only at kk
        rw [hpc] at kk
        have e : ad k = ad0 k := hr.1.2.2.1 k (Or.inr h1)
        show W _ _ _ _ _ _ _ _ _ _ _ _ _ _ _ (F0 m pc la (.ref (ad k) :: List.map (am_v ad) r))
        rw [e]
        exact va_slen hx hb h2 (Nat.lt_of_lt_of_le h3 hBs) (Nat.not_le.mpr h3) hr.2.2.2.1 hdg kk
      · exact h.elim
    · exact h.elim
  · exact h.elim
set_option maxHeartbeats 1000000 in
theorem am_s_getstatic {p : Program} {l : Launch} {e : Env} {R : Room} {s : State} {m : MethodId} {args : Array Value} {below : List Frame} {meth : Method} {c : Code} {Qf : State → Prop} {D : va_G} {cA : Nat → ClassId} {B : Nat} {cd : List am_E} {nL mc ms n0 : Nat} {ad0 : Nat → Nat} {K : am_K} {I : am_I} {Tc : am_T} {Q : Option Value → am_H → Prop} {own : String} {bytes : ByteArray} {isI : Bool} {ret : Option FieldType} {Y : am_Y} (X : am_CX p R s m meth c D cA B cd nL mc ms ad0 K own bytes isI ret Y) {pc : Nat} {i : Nat} {rs : List Nat} {im : Int32} {wl : List Nat} {is : List am_E} {ls : am_L} {st : List Value} {hp : am_H} {nc ns : Nat} (h : am_step K I Tc cd mc ms Q (am_PW p l e R s m args below meth c Qf D cA B cd nL mc ms n0 ad0) ((pc, .getstatic i, rs, im, wl) :: is, ls, st, hp, nc, ns)) : (am_PW p l e R s m args below meth c Qf D cA B cd nL mc ms n0 ad0) ((pc, .getstatic i, rs, im, wl) :: is, ls, st, hp, nc, ns) := by
  intro ad H locs la hr
  obtain ⟨hx, hb, hml, hown, hisI, hTW, hK, hCU, hBs, hRc, hRf, hV⟩ := X
  have hok := hV _ _ hr.1.1
  obtain ⟨hd, hv⟩ := (Bool.and_eq_true _ _).mp hok
  obtain ⟨hdg, hpc⟩ := am_d_spec hd
  dsimp only [am_step] at h
  split at h
  · rename_i k
    split at hv
    · rename_i k2 wi he
      cases he
      obtain ⟨h1, h2⟩ := (Bool.and_eq_true _ _).mp hv
      have hk := of_decide_eq_true h1
      subst hk
      have kk := h ad H locs la hr.tl
      dsimp only at kk
      rw [hpc] at kk
      have e9 : ad 1001 = ad0 1001 := hr.1.2.2.1 1001 (Or.inr (by decide))
      have kk : W p l e R s m args below meth c H locs nc ns Qf (F0 m (pc + 3) la (.ref (ad 1001) :: List.map (am_v ad) st)) := kk
      rw [e9] at kk
      exact va_gets hx hb hCU.2.1 hr.2.2.2.1 hown (hTW.at (of_decide_eq_true h2) rfl args) (fun _ h => h) hdg kk
    · cases hv
  · exact h.elim
set_option maxHeartbeats 1000000 in
theorem am_s_ldc {p : Program} {l : Launch} {e : Env} {R : Room} {s : State} {m : MethodId} {args : Array Value} {below : List Frame} {meth : Method} {c : Code} {Qf : State → Prop} {D : va_G} {cA : Nat → ClassId} {B : Nat} {cd : List am_E} {nL mc ms n0 : Nat} {ad0 : Nat → Nat} {K : am_K} {I : am_I} {Tc : am_T} {Q : Option Value → am_H → Prop} {own : String} {bytes : ByteArray} {isI : Bool} {ret : Option FieldType} {Y : am_Y} (X : am_CX p R s m meth c D cA B cd nL mc ms ad0 K own bytes isI ret Y) {pc : Nat} {i : Nat} {rs : List Nat} {im : Int32} {wl : List Nat} {is : List am_E} {ls : am_L} {st : List Value} {hp : am_H} {nc ns : Nat} (h : am_step K I Tc cd mc ms Q (am_PW p l e R s m args below meth c Qf D cA B cd nL mc ms n0 ad0) ((pc, .ldc i, rs, im, wl) :: is, ls, st, hp, nc, ns)) : (am_PW p l e R s m args below meth c Qf D cA B cd nL mc ms n0 ad0) ((pc, .ldc i, rs, im, wl) :: is, ls, st, hp, nc, ns) := by
  intro ad H locs la hr
  obtain ⟨hx, hb, hml, hown, hisI, hTW, hK, hCU, hBs, hRc, hRf, hV⟩ := X
  have hok := hV _ _ hr.1.1
  obtain ⟨hd, hv⟩ := (Bool.and_eq_true _ _).mp hok
  obtain ⟨hdg, hpc⟩ := am_d_spec hd
  dsimp only [am_step] at h
  split at h
  · split at hv
    · have kk := h ad H locs la hr.tl
      dsimp only at kk
      rw [hpc] at kk
      exact lv_ldc hx hb hown (hTW.at (of_decide_eq_true hv) rfl args) hdg kk
    · rename_i he
      cases he
    · cases hv
  · rename_i k rs2
    split at hv
    · rename_i he
      cases he
    · rename_i k2 wi he
      cases he
      unfold am_sxok at hv
      split at hv
      · rename_i o j tx hw
        obtain ⟨h1, h2⟩ := (Bool.and_eq_true _ _).mp hv
        obtain ⟨rfl, rfl⟩ := of_decide_eq_true h1
        have hk := Nat.eq_of_beq_eq_true h2
        have kk := h ad H locs la hr.tl
        dsimp only at kk
        rw [hpc] at kk
        have e9 : ad k = ad0 k := hr.1.2.2.1 k (Or.inr (by omega))
        have kk : W p l e R s m args below meth c H locs nc ns Qf (F0 m (pc + 2) la (.ref (ad k) :: List.map (am_v ad) st)) := kk
        rw [e9] at kk
        have hZ := hCU.2.2.1 _ _ _ _ hw
        rw [show am_str wi = k from hk.symm] at hZ
        exact va_ldcS hx hb hown hZ hdg kk
      · cases hv
    · cases hv
set_option maxHeartbeats 1000000 in
theorem am_s_ldc_w {p : Program} {l : Launch} {e : Env} {R : Room} {s : State} {m : MethodId} {args : Array Value} {below : List Frame} {meth : Method} {c : Code} {Qf : State → Prop} {D : va_G} {cA : Nat → ClassId} {B : Nat} {cd : List am_E} {nL mc ms n0 : Nat} {ad0 : Nat → Nat} {K : am_K} {I : am_I} {Tc : am_T} {Q : Option Value → am_H → Prop} {own : String} {bytes : ByteArray} {isI : Bool} {ret : Option FieldType} {Y : am_Y} (X : am_CX p R s m meth c D cA B cd nL mc ms ad0 K own bytes isI ret Y) {pc : Nat} {i : Nat} {rs : List Nat} {im : Int32} {wl : List Nat} {is : List am_E} {ls : am_L} {st : List Value} {hp : am_H} {nc ns : Nat} (h : am_step K I Tc cd mc ms Q (am_PW p l e R s m args below meth c Qf D cA B cd nL mc ms n0 ad0) ((pc, .ldc_w i, rs, im, wl) :: is, ls, st, hp, nc, ns)) : (am_PW p l e R s m args below meth c Qf D cA B cd nL mc ms n0 ad0) ((pc, .ldc_w i, rs, im, wl) :: is, ls, st, hp, nc, ns) := by
  intro ad H locs la hr
  obtain ⟨hx, hb, hml, hown, hisI, hTW, hK, hCU, hBs, hRc, hRf, hV⟩ := X
  have hok := hV _ _ hr.1.1
  obtain ⟨hd, hv⟩ := (Bool.and_eq_true _ _).mp hok
  obtain ⟨hdg, hpc⟩ := am_d_spec hd
  split at hv
  · have kk := h ad H locs la hr.tl
    dsimp only at kk
    rw [hpc] at kk
    exact lv_ldcw hx hb hown (hTW.at (of_decide_eq_true hv) rfl args) hdg kk
  · cases hv
set_option maxHeartbeats 1000000 in
theorem am_s_ldc2_w {p : Program} {l : Launch} {e : Env} {R : Room} {s : State} {m : MethodId} {args : Array Value} {below : List Frame} {meth : Method} {c : Code} {Qf : State → Prop} {D : va_G} {cA : Nat → ClassId} {B : Nat} {cd : List am_E} {nL mc ms n0 : Nat} {ad0 : Nat → Nat} {K : am_K} {I : am_I} {Tc : am_T} {Q : Option Value → am_H → Prop} {own : String} {bytes : ByteArray} {isI : Bool} {ret : Option FieldType} {Y : am_Y} (X : am_CX p R s m meth c D cA B cd nL mc ms ad0 K own bytes isI ret Y) {pc : Nat} {i : Nat} {rs : List Nat} {im : Int32} {wl : List Nat} {is : List am_E} {ls : am_L} {st : List Value} {hp : am_H} {nc ns : Nat} (h : am_step K I Tc cd mc ms Q (am_PW p l e R s m args below meth c Qf D cA B cd nL mc ms n0 ad0) ((pc, .ldc2_w i, rs, im, wl) :: is, ls, st, hp, nc, ns)) : (am_PW p l e R s m args below meth c Qf D cA B cd nL mc ms n0 ad0) ((pc, .ldc2_w i, rs, im, wl) :: is, ls, st, hp, nc, ns) := by
  intro ad H locs la hr
  obtain ⟨hx, hb, hml, hown, hisI, hTW, hK, hCU, hBs, hRc, hRf, hV⟩ := X
  have hok := hV _ _ hr.1.1
  obtain ⟨hd, hv⟩ := (Bool.and_eq_true _ _).mp hok
  obtain ⟨hdg, hpc⟩ := am_d_spec hd
  split at hv
  · have kk := h ad H locs la hr.tl
    dsimp only at kk
    rw [hpc] at kk
    exact lv_ldc2 hx hb hown (hTW.at (of_decide_eq_true hv) rfl args) hdg kk
  · cases hv
set_option maxHeartbeats 1000000 in
theorem am_s_lookupswitch {p : Program} {l : Launch} {e : Env} {R : Room} {s : State} {m : MethodId} {args : Array Value} {below : List Frame} {meth : Method} {c : Code} {Qf : State → Prop} {D : va_G} {cA : Nat → ClassId} {B : Nat} {cd : List am_E} {nL mc ms n0 : Nat} {ad0 : Nat → Nat} {K : am_K} {I : am_I} {Tc : am_T} {Q : Option Value → am_H → Prop} {own : String} {bytes : ByteArray} {isI : Bool} {ret : Option FieldType} {Y : am_Y} (X : am_CX p R s m meth c D cA B cd nL mc ms ad0 K own bytes isI ret Y) {pc : Nat} {dflt : Int} {ps : Array (Int × Int)} {rs : List Nat} {im : Int32} {wl : List Nat} {is : List am_E} {ls : am_L} {st : List Value} {hp : am_H} {nc ns : Nat} (h : am_step K I Tc cd mc ms Q (am_PW p l e R s m args below meth c Qf D cA B cd nL mc ms n0 ad0) ((pc, .lookupswitch dflt ps, rs, im, wl) :: is, ls, st, hp, nc, ns)) : (am_PW p l e R s m args below meth c Qf D cA B cd nL mc ms n0 ad0) ((pc, .lookupswitch dflt ps, rs, im, wl) :: is, ls, st, hp, nc, ns) := by
  intro ad H locs la hr
  obtain ⟨hx, hb, hml, hown, hisI, hTW, hK, hCU, hBs, hRc, hRf, hV⟩ := X
  have hok := hV _ _ hr.1.1
  obtain ⟨hd, hv⟩ := (Bool.and_eq_true _ _).mp hok
  dsimp only [am_step] at h
  split at hd
  · rename_i i9 len hdc
    have hi9 := of_decide_eq_true hd
    subst hi9
    split at h
    · rename_i d ts x r
      obtain ⟨h1, h2⟩ := (Bool.and_eq_true _ _).mp hv
      obtain ⟨h3, h4⟩ := (Bool.and_eq_true _ _).mp h2
      obtain ⟨off, t, g1, g2, g3⟩ := am_look_at h1 h3 h
      have kk := g3 ad H locs la (hr.go (List.drop_suffix t cd))
      exact lv_lookup hx hb hdc h4 g1 (am_j_spec g2) kk
    · exact h.elim
  · cases hd
set_option maxHeartbeats 1000000 in
theorem am_s_tableswitch {p : Program} {l : Launch} {e : Env} {R : Room} {s : State} {m : MethodId} {args : Array Value} {below : List Frame} {meth : Method} {c : Code} {Qf : State → Prop} {D : va_G} {cA : Nat → ClassId} {B : Nat} {cd : List am_E} {nL mc ms n0 : Nat} {ad0 : Nat → Nat} {K : am_K} {I : am_I} {Tc : am_T} {Q : Option Value → am_H → Prop} {own : String} {bytes : ByteArray} {isI : Bool} {ret : Option FieldType} {Y : am_Y} (X : am_CX p R s m meth c D cA B cd nL mc ms ad0 K own bytes isI ret Y) {pc : Nat} {dflt lo hi : Int} {offs : Array Int} {rs : List Nat} {im : Int32} {wl : List Nat} {is : List am_E} {ls : am_L} {st : List Value} {hp : am_H} {nc ns : Nat} (h : am_step K I Tc cd mc ms Q (am_PW p l e R s m args below meth c Qf D cA B cd nL mc ms n0 ad0) ((pc, .tableswitch dflt lo hi offs, rs, im, wl) :: is, ls, st, hp, nc, ns)) : (am_PW p l e R s m args below meth c Qf D cA B cd nL mc ms n0 ad0) ((pc, .tableswitch dflt lo hi offs, rs, im, wl) :: is, ls, st, hp, nc, ns) := by
  intro ad H locs la hr
  obtain ⟨hx, hb, hml, hown, hisI, hTW, hK, hCU, hBs, hRc, hRf, hV⟩ := X
  have hok := hV _ _ hr.1.1
  obtain ⟨hd, hv⟩ := (Bool.and_eq_true _ _).mp hok
  dsimp only [am_step] at h
  split at hd
  · rename_i i9 len hdc
    have hi9 := of_decide_eq_true hd
    subst hi9
    split at h
    · rename_i d ts x r
      obtain ⟨h1, h2⟩ := (Bool.and_eq_true _ _).mp hv
      obtain ⟨h3, h4⟩ := (Bool.and_eq_true _ _).mp h2
      obtain ⟨hlo, hhi, hlo0, hhi0⟩ := of_decide_eq_true h4
      obtain ⟨hlen, hat⟩ := am_tok_at h3
      have hL : ts.length < 1001 := by omega
      have hsum : (im + Int32.ofNat ts.length).toInt = lo + (ts.length : Int) := by
        rw [Int32.toInt_add, hlo, Int32.toInt_ofNat_of_lt (by omega)]
        rw [Int.bmod_eq_of_le] <;> omega
      by_cases ho : x.toInt < lo ∨ hi < x.toInt
      · have kk := h.2 (by
          rcases ho with ho | ho
          · exact Or.inl (Int32.lt_iff_toInt_lt.mpr (by rw [hlo]; exact ho))
          · exact Or.inr (Int32.le_iff_toInt_le.mpr (by rw [hsum]; omega))) ad H locs la (hr.go (List.drop_suffix d cd))
        exact lv_tableOut hx hb hdc ho (am_j_spec h1) kk
      · have ho1 : ¬ x.toInt < lo := fun q => ho (Or.inl q)
        have ho2 : ¬ hi < x.toInt := fun q => ho (Or.inr q)
        have hidx : (x.toInt - lo).toNat < ts.length := by omega
        obtain ⟨t, ht⟩ : ∃ t, ts[(x.toInt - lo).toNat]? = some t := ⟨_, List.getElem?_eq_getElem hidx⟩
        obtain ⟨o, ho3, ho4⟩ := hat _ _ ht
        have hxe : x = im + Int32.ofNat (x.toInt - lo).toNat := by
          apply Int32.toInt_inj.mp
          rw [Int32.toInt_add, hlo, Int32.toInt_ofNat_of_lt (by omega), Int.bmod_eq_of_le] <;> omega
        have kk := am_tab_at h.1 ht hxe ad H locs la (hr.go (List.drop_suffix t cd))
        exact lv_tableIn hx hb hdc ho1 ho2 (by rw [← Array.getElem?_toList]; exact ho3) (am_j_spec ho4) kk
    · exact h.elim
  · cases hd
