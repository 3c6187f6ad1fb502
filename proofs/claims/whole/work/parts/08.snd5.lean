/-! ===== fields, arrays, constants, switches ===== -/
theorem am_blt {a b : Nat} (h : Nat.blt a b = true) : a < b := Nat.le_of_ble_eq_true h
def am_fty (f : Nat) (ty : FieldType) : Prop := match f with
  | 0 => ty = .int
  | 1 => ty = .boolean
  | _ => (∃ C, ty = .object C) ∨ ∃ t, ty = .array t
theorem am_nf_eq {ci : Nat} {C : String} {T : u_T} {N : Nat} (h : vwCl[ci]? = some (C, T, N)) : am_nf ci = N := by
  unfold am_nf
  rw [h]
theorem am_fok_spec {s : State} (hTW : am_TW s) (args : Array Value) {own : String} {idx j ci : Nat} {wl : List Nat} (h : am_fok own idx wl j ci = true) : ∃ (C : String) (T : u_T) (N : Nat), vwCl[ci]? = some (C, T, N) ∧ j < N ∧ ((∃ ref : String, (Cond.fieldLink own idx ref (T j).2.1 (T j).2.2.1).before args s = true ∧ ∀ x, s.fieldFound? (T j).1 (T j).2.1 (T j).2.2.1 = some x → s.fieldFound? ref (T j).2.1 (T j).2.2.1 = some x) ∨ (Cond.fieldLinkNest own idx (T j).1 (T j).2.1 (T j).2.2.1 "TwoKings").before args s = true) := by
  unfold am_fok at h
  split at h
  · rename_i C T N hc
    obtain ⟨h1, h2⟩ := (Bool.and_eq_true _ _).mp h
    refine ⟨C, T, N, hc, am_blt h1, ?_⟩
    split at h2
    · rcases (Bool.or_eq_true _ _).mp h2 with h3 | h3
      · exact Or.inl ⟨_, hTW.at (of_decide_eq_true h3) rfl args, fun _ h9 => h9⟩
      · exact Or.inr (hTW.at (of_decide_eq_true h3) rfl args)
    · obtain ⟨h3, h4⟩ := (Bool.and_eq_true _ _).mp h2
      exact Or.inl ⟨_, hTW.at (of_decide_eq_true h3) rfl args, fun x h9 => u_same (hTW.at (of_decide_eq_true h4) rfl args) x h9⟩
    · cases h2
  · cases h
theorem am_getf {p : Program} {l : Launch} {e : Env} {R : Room} {s : State} {m : MethodId} {args : Array Value} {below : List Frame} {meth : Method} {c : Code} {H : Heap} {locs : List Loc} {cells slots : Nat} {Q : State → Prop} {cc : ByteArray} {pc : Nat} {la : Array Slot} {rest : List Value} {D : va_G} {cA : Nat → ClassId} {ad : Nat → Nat} {hp : am_H} (hx : p.tables.exec = Jvm.exec) (hb : c.code = cc) {own : String} {idx j k kd n : Nat} {wl : List Nat} {q : List (Option Nat)} (hown : s.vm.findClass own = some m.cls) (hTW : am_TW s) (hK : va_K D vwCl (am_tys cA) s) (hP : va_P D vwCl (am_cw cA ad hp) H) (hok : am_fok own idx wl j kd = true) (hlt : kd < 100) (hat : am_at hp.1 k = some (kd, n, q)) {v : Value} (hv : am_fv ad hp.2.1 k kd q j = v) (hdg : decode cc pc = .ok (.getfield idx, 3))
    (kk : W p l e R s m args below meth c H locs cells slots Q (F0 m (pc + 3) la (v :: rest))) : W p l e R s m args below meth c H locs cells slots Q (F0 m pc la (.ref (ad k) :: rest)) := by
  obtain ⟨C, T, N, hc, hj, hl⟩ := am_fok_spec hTW args hok
  have he := am_cw_at (cA := cA) (ad := ad) hat
  rw [am_cell_lt hlt] at he
  have hfv : (am_fs ad hp.2.1 k kd q)[j]? = some v := by rw [am_fs_at (by rw [am_nf_eq hc]; exact hj), hv]
  rcases hl with ⟨ref, hl, hs⟩ | hl
  · exact va_get hx hb (am_hts hTW hc args) (fun _ h => h) hown hK hP k he hc j hj hl hs hfv hdg kk
  · exact va_getN hx hb (am_hts hTW hc args) (fun _ h => h) hown hK hP k he hc j hj hl (fun _ h => h) hfv hdg kk
theorem am_putf {p : Program} {l : Launch} {e : Env} {R : Room} {s : State} {m : MethodId} {args : Array Value} {below : List Frame} {meth : Method} {c : Code} {H : Heap} {locs : List Loc} {cells slots : Nat} {Q : State → Prop} {cc : ByteArray} {pc : Nat} {la : Array Slot} {rest : List Value} {D : va_G} {cA : Nat → ClassId} {ad : Nat → Nat} {hp : am_H} {B : Nat} {isI : Bool} (hx : p.tables.exec = Jvm.exec) (hb : c.code = cc) {own : String} {idx j k kd n f : Nat} {wl : List Nat} {q : List (Option Nat)} (hown : s.vm.findClass own = some m.cls) (hisI : isI = true → meth.name = "<init>") (hTW : am_TW s) (hK : va_K D vwCl (am_tys cA) s) (hP : va_P D vwCl (am_cw cA ad hp) H) (hD : va_D (fun a => B ≤ a) (am_cw cA ad hp)) (hS : va_S (fun a => B ≤ a) s.heap H locs) (hok : am_pok own isI idx wl j f kd = true) (hlt : kd < 100) (hat : am_at hp.1 k = some (kd, n, q)) {v : Value} (hv : ∀ ty : FieldType, am_fty f ty → narrow ty v = v ∧ fits ty v = true) (hdg : decode cc pc = .ok (.putfield idx, 3))
    (kk : ∀ (H1 : Heap) (locs1 : List Loc), va_P D vwCl ((am_cw cA ad hp).set k (ad k, .inr (kd, (am_fs ad hp.2.1 k kd q).set j v))) H1 → va_D (fun a => B ≤ a) ((am_cw cA ad hp).set k (ad k, .inr (kd, (am_fs ad hp.2.1 k kd q).set j v))) → va_S (fun a => B ≤ a) s.heap H1 locs1 → W p l e R s m args below meth c H1 locs1 cells slots Q (F0 m (pc + 3) la rest)) : W p l e R s m args below meth c H locs cells slots Q (F0 m pc la (v :: .ref (ad k) :: rest)) := by
  unfold am_pok at hok
  split at hok
  · rename_i C T N hc
    obtain ⟨h1, h2⟩ := (Bool.and_eq_true _ _).mp hok
    obtain ⟨h3, h4⟩ := (Bool.and_eq_true _ _).mp h2
    have hj : j < N := am_blt h1
    obtain ⟨ty0, hty, hnm, -⟩ := am_cls hc
    have he := am_cw_at (cA := cA) (ad := ad) hat
    rw [am_cell_lt hlt] at he
    have hpd := hty j hj
    have hvv : narrow (ty0 j) v = v ∧ fits (ty0 j) v = true := by
      apply hv
      split at h4
      · obtain ⟨h5, -⟩ := (Bool.and_eq_true _ _).mp h4
        rw [of_decide_eq_true h5] at hpd
        exact (Option.some.inj hpd).symm
      · obtain ⟨h5, -⟩ := (Bool.and_eq_true _ _).mp h4
        rw [of_decide_eq_true h5] at hpd
        exact (Option.some.inj hpd).symm
      · obtain ⟨h5, -⟩ := (Bool.and_eq_true _ _).mp h4
        unfold am_isRT at h5
        rw [hpd] at h5
        have h7 : (∃ C, ty0 j = .object C) ∨ ∃ t, ty0 j = .array t := by
          split at h5
          · rename_i h6
            exact Or.inl ⟨_, Option.some.inj h6⟩
          · rename_i h6
            exact Or.inr ⟨_, Option.some.inj h6⟩
          · cases h5
        unfold am_fty
        split
        · rename_i hn0 hn1
          exact absurd rfl hn0
        · rename_i hn0 hn1
          exact absurd rfl hn1
        · exact h7
    have hl : j < (am_fs ad hp.2.1 k kd q).length := by rw [am_fs_len, am_nf_eq hc]; exact hj
    split at h3
    · rename_i hfin
      obtain ⟨C', T', N', hc', -, hlk⟩ := am_fok_spec hTW args h3
      rw [hc] at hc'
      cases hc'
      rcases hlk with ⟨ref, hlk, hs⟩ | hlk
      · exact va_put hx hb (am_hts hTW hc args) (fun _ h => h) ty0 hty hnm hown hK hP hD hS k he hc j hj hlk hs hfin hpd hvv.1 hvv.2 hl hdg kk
      · exact va_putN hx hb (am_hts hTW hc args) (fun _ h => h) ty0 hty hnm hown hK hP hD hS k he hc j hj hlk (fun _ h => h) hfin hpd hvv.1 hvv.2 hl hdg kk
    · rename_i hfin
      obtain ⟨h5, h6⟩ := (Bool.and_eq_true _ _).mp h3
      obtain ⟨h7, h8⟩ := (Bool.and_eq_true _ _).mp h6
      split at h8
      · exact va_putF hx hb (am_hts hTW hc args) (fun _ h => h) ty0 hty hnm hown hK hP hD hS k he hc j hj (hTW.at (of_decide_eq_true h8) rfl args) (fun _ h => h) hfin (hisI h5) (of_decide_eq_true h7) hpd hvv.1 hvv.2 hl hdg kk
      · cases h8
  · cases hok
theorem am_Rel.wr {s : State} {D : va_G} {cA : Nat → ClassId} {B : Nat} {cd : List am_E} {nL mc ms n0 : Nat} {ad0 : Nat → Nat} {q : am_E} {is : List am_E} {ls : am_L} {st st2 : List Value} {hp h2 : am_H} {nc ns : Nat} {ad : Nat → Nat} {H H1 : Heap} {locs locs1 : List Loc} {la : Array Slot} (hr : am_Rel s D cA B cd nL mc ms n0 ad0 (q :: is, ls, st, hp, nc, ns) ad H locs la) (hl : h2.1.length = hp.1.length) (hP : va_P D vwCl (am_cw cA ad h2) H1) (hD : va_D (fun a => B ≤ a) (am_cw cA ad h2)) (hS : va_S (fun a => B ≤ a) s.heap H1 locs1) : am_Rel s D cA B cd nL mc ms n0 ad0 (is, ls, st2, h2, nc, ns) ad H1 locs1 la := ⟨⟨(List.suffix_cons _ _).trans hr.1.1, hr.1.2.1, hr.1.2.2.1, by show n0 ≤ h2.1.length; rw [hl]; exact hr.1.2.2.2.1, hr.1.2.2.2.2⟩, hP, hD, hS, hr.2.2.2.2⟩
theorem am_setS_len : ∀ (l : List am_S) (k : Nat) (z : am_S), (am_setS l k z).length = l.length
  | [], _, _ => rfl
  | _ :: _, 0, _ => rfl
  | _ :: l, k + 1, z => by simp [am_setS, am_setS_len l k z]
set_option maxHeartbeats 1000000 in
theorem am_s_getfield {p : Program} {l : Launch} {e : Env} {R : Room} {s : State} {m : MethodId} {args : Array Value} {below : List Frame} {meth : Method} {c : Code} {Qf : State → Prop} {D : va_G} {cA : Nat → ClassId} {B : Nat} {cd : List am_E} {nL mc ms n0 : Nat} {ad0 : Nat → Nat} {K : am_K} {I : am_I} {Tc : am_T} {Q : Option Value → am_H → Prop} {own : String} {bytes : ByteArray} {isI : Bool} {ret : Option FieldType} {Y : am_Y} (X : am_CX p R s m meth c D cA B cd nL mc ms ad0 K own bytes isI ret Y) {pc : Nat} {i : Nat} {rs : List Nat} {im : Int32} {wl : List Nat} {is : List am_E} {ls : am_L} {st : List Value} {hp : am_H} {nc ns : Nat} (h : am_step K I Tc cd mc ms Q (am_PW p l e R s m args below meth c Qf D cA B cd nL mc ms n0 ad0) ((pc, .getfield i, rs, im, wl) :: is, ls, st, hp, nc, ns)) : (am_PW p l e R s m args below meth c Qf D cA B cd nL mc ms n0 ad0) ((pc, .getfield i, rs, im, wl) :: is, ls, st, hp, nc, ns) := by
  intro ad H locs la hr
  obtain ⟨hx, hb, hml, hown, hisI, hTW, hK, hCU, hBs, hRc, hRf, hV⟩ := X
  have hok := hV _ _ hr.1.1
  obtain ⟨hd, hv⟩ := (Bool.and_eq_true _ _).mp hok
  obtain ⟨hdg, hpc⟩ := am_d_spec hd
  dsimp only [am_step] at h
  split at h
  · split at h
    · rename_i kd n q hat
      split at h
      · rename_i hm
        obtain ⟨hf, hf2⟩ := (Bool.and_eq_true _ _).mp (List.all_eq_true.mp hv kd (am_mem_in hm))
        obtain ⟨hlt, hR⟩ := (Bool.and_eq_true _ _).mp hf2
        split at h
        · have k := h ad H locs la hr.tl
          dsimp only at k
          rw [hpc] at k
          refine am_getf hx hb hown hTW hK hr.2.1 hf (am_blt hlt) hat ?_ hdg k
          unfold am_fv
          rw [show am_isR kd _ = false by simpa using hR]
          rfl
        · rename_i hne
          split at h
          · rename_i a hn
            have k := h ad H locs la hr.tl
            dsimp only at k
            rw [hpc] at k
            refine am_getf hx hb hown hTW hK hr.2.1 hf (am_blt hlt) hat ?_ hdg k
            unfold am_fv
            split at hR
            · exact absurd rfl hne
            · rw [hR]
              rw [am_nth_eq] at hn
              simp [hn, va_rf, am_v]
          · exact h.elim
      · exact h.elim
    · exact h.elim
  · exact h.elim
set_option maxHeartbeats 1000000 in
theorem am_s_putfield {p : Program} {l : Launch} {e : Env} {R : Room} {s : State} {m : MethodId} {args : Array Value} {below : List Frame} {meth : Method} {c : Code} {Qf : State → Prop} {D : va_G} {cA : Nat → ClassId} {B : Nat} {cd : List am_E} {nL mc ms n0 : Nat} {ad0 : Nat → Nat} {K : am_K} {I : am_I} {Tc : am_T} {Q : Option Value → am_H → Prop} {own : String} {bytes : ByteArray} {isI : Bool} {ret : Option FieldType} {Y : am_Y} (X : am_CX p R s m meth c D cA B cd nL mc ms ad0 K own bytes isI ret Y) {pc : Nat} {i : Nat} {rs : List Nat} {im : Int32} {wl : List Nat} {is : List am_E} {ls : am_L} {st : List Value} {hp : am_H} {nc ns : Nat} (h : am_step K I Tc cd mc ms Q (am_PW p l e R s m args below meth c Qf D cA B cd nL mc ms n0 ad0) ((pc, .putfield i, rs, im, wl) :: is, ls, st, hp, nc, ns)) : (am_PW p l e R s m args below meth c Qf D cA B cd nL mc ms n0 ad0) ((pc, .putfield i, rs, im, wl) :: is, ls, st, hp, nc, ns) := by
  intro ad H locs la hr
  obtain ⟨hx, hb, hml, hown, hisI, hTW, hK, hCU, hBs, hRc, hRf, hV⟩ := X
  have hok := hV _ _ hr.1.1
  obtain ⟨hd, hv⟩ := (Bool.and_eq_true _ _).mp hok
  obtain ⟨hdg, hpc⟩ := am_d_spec hd
  dsimp only [am_step] at h
  split at h
  · rename_i j f cs v k r
    split at h
    · rename_i kd n q hat
      split at h
      · rename_i hm
        obtain ⟨hf, hlt⟩ := (Bool.and_eq_true _ _).mp (List.all_eq_true.mp hv kd (am_mem_in hm))
        have hkl : k < hp.1.length := by
          rw [am_at_eq] at hat
          exact (List.getElem?_eq_some_iff.mp hat).1
        have hf0 := hf
        unfold am_pok at hf0
        split at hf0
        · rename_i C T N hc
          obtain ⟨-, h2⟩ := (Bool.and_eq_true _ _).mp hf0
          obtain ⟨-, h4⟩ := (Bool.and_eq_true _ _).mp h2
          split at h
          · rename_i x
            obtain ⟨-, hR⟩ := (Bool.and_eq_true _ _).mp h4
            refine am_putf hx hb hown hisI hTW hK hr.2.1 hr.2.2.1 hr.2.2.2.1 hf (am_blt hlt) hat (v := .int x) (fun ty hty => ?_) hdg (fun H1 locs1 hP hD hS => ?_)
            · cases hty
              exact ⟨rfl, rfl⟩
            · have e : (am_cw cA ad hp).set k (ad k, .inr (kd, (am_fs ad hp.2.1 k kd q).set j (.int x))) = am_cw cA ad (hp.1, am_up hp.2.1 k j x, hp.2.2) := am_cw_set hat (fun i => by
                  by_cases e : i = k
                  · rw [if_pos e, e, ← am_at_eq]; exact hat
                  · rw [if_neg e]) (fun i y hi => am_cell_v y (am_up_ne _ _ _ hi) rfl) (by rw [am_cell_lt (am_blt hlt), am_fs_set (by simpa using hR)])
              rw [e] at hP hD
              have k := h ad H1 locs1 la (hr.wr rfl hP hD hS)
              dsimp only at k
              rw [hpc] at k
              exact k
          · rename_i x
            obtain ⟨-, hR⟩ := (Bool.and_eq_true _ _).mp h4
            refine am_putf hx hb hown hisI hTW hK hr.2.1 hr.2.2.1 hr.2.2.2.1 hf (am_blt hlt) hat (v := .int x) (fun ty hty => ?_) hdg (fun H1 locs1 hP hD hS => ?_)
            · cases hty
              rcases h.1 with rfl | rfl
              · exact ⟨rfl, rfl⟩
              · exact ⟨rfl, rfl⟩
            · have e : (am_cw cA ad hp).set k (ad k, .inr (kd, (am_fs ad hp.2.1 k kd q).set j (.int x))) = am_cw cA ad (hp.1, am_up hp.2.1 k j x, hp.2.2) := am_cw_set hat (fun i => by
                  by_cases e : i = k
                  · rw [if_pos e, e, ← am_at_eq]; exact hat
                  · rw [if_neg e]) (fun i y hi => am_cell_v y (am_up_ne _ _ _ hi) rfl) (by rw [am_cell_lt (am_blt hlt), am_fs_set (by simpa using hR)])
              rw [e] at hP hD
              have k := h.2 ad H1 locs1 la (hr.wr rfl hP hD hS)
              dsimp only at k
              rw [hpc] at k
              exact k
          · rename_i a
            obtain ⟨-, hR⟩ := (Bool.and_eq_true _ _).mp h4
            split at h
            · rename_i hjl
              refine am_putf hx hb hown hisI hTW hK hr.2.1 hr.2.2.1 hr.2.2.2.1 hf (am_blt hlt) hat (v := .ref (ad a)) (fun ty hty => ?_) hdg (fun H1 locs1 hP hD hS => ?_)
              · rcases hty with ⟨C, rfl⟩ | ⟨t, rfl⟩
                · exact ⟨rfl, rfl⟩
                · exact ⟨rfl, rfl⟩
              · have e : (am_cw cA ad hp).set k (ad k, .inr (kd, (am_fs ad hp.2.1 k kd q).set j (.ref (ad a)))) = am_cw cA ad (am_setS hp.1 k (kd, n, am_setR q j (some a)), hp.2.1, hp.2.2) := am_cw_set hat (fun i => am_setS_at _ _ _ _ hkl) (fun i y hi => rfl) (by rw [am_cell_lt (am_blt hlt), am_fs_setR hR (am_blt hjl)])
                rw [e] at hP hD
                have k := h ad H1 locs1 la (hr.wr (am_setS_len _ _ _) hP hD hS)
                dsimp only at k
                rw [hpc] at k
                exact k
            · exact h.elim
          · exact h.elim
        · cases hf0
      · exact h.elim
    · exact h.elim
  · exact h.elim
