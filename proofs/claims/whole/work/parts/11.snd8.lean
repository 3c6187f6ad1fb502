/-! ===== new cells ===== -/
theorem am_refs_t : (List.range 12).all (fun ci => match vwCl[ci]? with
  | some (_, T, N) => (List.range N).all (fun j => !am_isR ci j || am_isRT (T j).2.2.1)
  | none => true) = true := by decide +kernel
theorem am_refs {ci : Nat} {C : String} {T : u_T} {N : Nat} (hc : vwCl[ci]? = some (C, T, N)) {j : Nat} (hj : j < N) (hR : am_isR ci j = true) : am_isRT (T j).2.2.1 = true := by
  have hl : ci < 12 := by
    have := (List.getElem?_eq_some_iff.mp hc).1
    have : vwCl.length = 12 := rfl
    omega
  have h := List.all_eq_true.mp am_refs_t ci (List.mem_range.mpr hl)
  rw [hc] at h
  have h2 := List.all_eq_true.mp h j (List.mem_range.mpr hj)
  rw [hR] at h2
  simpa using h2
theorem am_isR_int {ci : Nat} {C : String} {T : u_T} {N : Nat} (hc : vwCl[ci]? = some (C, T, N)) {j : Nat} (hR : am_isR ci j = false) : (T j).2.2.1 = "I" ∨ (T j).2.2.1 = "Z" := by
  unfold am_isR at hR
  rw [hc] at hR
  by_cases hI : (T j).2.2.1 = "I"
  · exact Or.inl hI
  · exact Or.inr (by simpa [hI] using hR)
theorem am_rq_eq {ad ad2 : Nat → Nat} {n : Nat} (he : ∀ k, (k < n ∨ 1000 ≤ k) → ad2 k = ad k) : ∀ {q : List (Option Nat)} {j : Nat}, am_rq n q = true → (q.getD j none).map ad2 = (q.getD j none).map ad
  | [], j, _ => by simp
  | none :: q, 0, h => rfl
  | some k :: q, 0, h => by
    obtain ⟨h1, h2⟩ := (Bool.and_eq_true _ _).mp h
    rcases (Bool.or_eq_true _ _).mp h1 with h3 | h3
    · exact congrArg some (he k (Or.inl (Nat.le_of_ble_eq_true h3)))
    · exact congrArg some (he k (Or.inr (Nat.le_of_ble_eq_true h3)))
  | none :: q, j + 1, h => by
    simp only [List.getD_cons_succ]
    exact am_rq_eq he (q := q) h
  | some k :: q, j + 1, h => by
    simp only [List.getD_cons_succ]
    exact am_rq_eq he ((Bool.and_eq_true _ _).mp h).2
theorem am_rh_at {n : Nat} : ∀ {l : List am_S} {i : Nat} {y : am_S}, am_rh n l = true → l[i]? = some y → am_rq n y.2.2 = true
  | [], _, _, _, h => by simp at h
  | a :: l, 0, y, h, hi => by
    cases hi
    exact ((Bool.and_eq_true _ _).mp h).1
  | a :: l, i + 1, y, h, hi => am_rh_at (l := l) ((Bool.and_eq_true _ _).mp h).2 (by simpa using hi)
theorem am_cell_ad {cA : Nat → ClassId} {ad ad2 : Nat → Nat} {v : am_V} {w : am_X} {n k : Nat} {y : am_S} (he : ∀ k, (k < n ∨ 1000 ≤ k) → ad2 k = ad k) (hy : am_rq n y.2.2 = true) : am_cell cA ad2 v w k y = am_cell cA ad v w k y := by
  have h1 : ∀ j : Nat, (y.2.2.getD j none).map ad2 = (y.2.2.getD j none).map ad := fun j => am_rq_eq he hy
  have h2 : ∀ ci : Nat, am_fs ad2 v k ci y.2.2 = am_fs ad v k ci y.2.2 := by
    intro ci
    unfold am_fs
    apply List.map_congr_left
    intro j _
    unfold am_fv
    rw [h1]
  unfold am_cell
  rw [h2]
  rw [show (fun j => (y.2.2.getD j none).map ad2) = (fun j => (y.2.2.getD j none).map ad) from funext h1]
/-- cells laid behind the others -/
theorem am_cw_app {cA : Nat → ClassId} {ad ad2 : Nat → Nat} {sh zs : List am_S} {v : am_V} {w : am_X} {es : va_W} (he : ∀ k, (k < sh.length ∨ 1000 ≤ k) → ad2 k = ad k) (hh : am_rh sh.length sh = true) (hes : (zs.mapIdx (fun i z => (ad2 (i + sh.length), am_cell cA ad2 v w (i + sh.length) z))) = es) : am_cw cA ad2 (sh ++ zs, v, w) = am_cw cA ad (sh, v, w) ++ es := by
  unfold am_cw
  dsimp only
  rw [List.mapIdx_append, hes]
  congr 1
  apply List.ext_getElem?
  intro i
  rw [List.getElem?_mapIdx, List.getElem?_mapIdx]
  cases h : sh[i]? with
  | none => rfl
  | some y =>
    have hi : i < sh.length := (List.getElem?_eq_some_iff.mp h).1
    show some (ad2 i, am_cell cA ad2 v w i y) = some (ad i, am_cell cA ad v w i y)
    rw [he i (Or.inl hi), am_cell_ad he (am_rh_at hh h)]
theorem am_nones_at : ∀ (n j : Nat), (am_nones n).getD j none = none
  | 0, j => by simp [am_nones]
  | n + 1, 0 => rfl
  | n + 1, j + 1 => by
    simp only [am_nones, List.getD_cons_succ]
    exact am_nones_at n j
/-- the relation behind new cells -/
theorem am_Rel.nw {s : State} {D : va_G} {cA : Nat → ClassId} {B : Nat} {cd : List am_E} {nL mc ms n0 : Nat} {ad0 : Nat → Nat} {q : am_E} {is : List am_E} {ls : am_L} {st st2 : List Value} {hp h2 : am_H} {nc ns c2 s2 : Nat} {ad ad2 : Nat → Nat} {H H1 : Heap} {locs : List Loc} {la : Array Slot} (hr : am_Rel s D cA B cd nL mc ms n0 ad0 (q :: is, ls, st, hp, nc, ns) ad H locs la) (he : ∀ k, (k < hp.1.length ∨ 1000 ≤ k) → ad2 k = ad k) (hl : am_rl hp.1.length ls = true) (hlen : hp.1.length ≤ h2.1.length) (hc : nc + c2 ≤ mc) (hs : ns + s2 ≤ ms) (h0 : 0 < c2) (hP : va_P D vwCl (am_cw cA ad2 h2) H1) (hD : va_D (fun a => B ≤ a) (am_cw cA ad2 h2)) (hS : va_S (fun a => B ≤ a) s.heap H1 locs) : am_Rel s D cA B cd nL mc ms n0 ad0 (is, ls, st2, h2, nc + c2, ns + s2) ad2 H1 locs la := by
  refine ⟨⟨(List.suffix_cons _ _).trans hr.1.1, fun z => absurd z (by omega), fun k hk => ?_, Nat.le_trans hr.1.2.2.2.1 hlen, hc, hs⟩, hP, hD, hS, am_LV.ad he hl hr.2.2.2.2⟩
  have hn : n0 ≤ hp.1.length := hr.1.2.2.2.1
  rw [he k (hk.elim (fun h => Or.inl (Nat.lt_of_lt_of_le h hn)) Or.inr)]
  exact hr.1.2.2.1 k hk
set_option maxHeartbeats 1000000 in
theorem am_s_new {p : Program} {l : Launch} {e : Env} {R : Room} {s : State} {m : MethodId} {args : Array Value} {below : List Frame} {meth : Method} {c : Code} {Qf : State → Prop} {D : va_G} {cA : Nat → ClassId} {B : Nat} {cd : List am_E} {nL mc ms n0 : Nat} {ad0 : Nat → Nat} {K : am_K} {I : am_I} {Tc : am_T} {Q : Option Value → am_H → Prop} {own : String} {bytes : ByteArray} {isI : Bool} {ret : Option FieldType} {Y : am_Y} (X : am_CX p R s m meth c D cA B cd nL mc ms ad0 K own bytes isI ret Y) {pc : Nat} {i : Nat} {rs : List Nat} {im : Int32} {wl : List Nat} {is : List am_E} {ls : am_L} {st : List Value} {hp : am_H} {nc ns : Nat} (h : am_step K I Tc cd mc ms Q (am_PW p l e R s m args below meth c Qf D cA B cd nL mc ms n0 ad0) ((pc, .new i, rs, im, wl) :: is, ls, st, hp, nc, ns)) : (am_PW p l e R s m args below meth c Qf D cA B cd nL mc ms n0 ad0) ((pc, .new i, rs, im, wl) :: is, ls, st, hp, nc, ns) := by
  intro ad H locs la hr
  obtain ⟨hx, hb, hml, hown, hisI, hTW, hK, hCU, hBs, hRc, hRf, hV⟩ := X
  have hok := hV _ _ hr.1.1
  obtain ⟨hd, hv⟩ := (Bool.and_eq_true _ _).mp hok
  obtain ⟨hdg, hpc⟩ := am_d_spec hd
  dsimp only [am_step] at h
  split at h
  · rename_i ci n
    split at h
    · rename_i hg
      obtain ⟨g1, hg⟩ := (Bool.and_eq_true _ _).mp hg
      obtain ⟨g2, hg⟩ := (Bool.and_eq_true _ _).mp hg
      obtain ⟨g3, g4⟩ := (Bool.and_eq_true _ _).mp hg
      obtain ⟨⟨hc1, hc2, hz⟩, h⟩ := h
      have g4 := am_blt g4
      split at hv
      · rename_i ci2 n2 wi wj wk he
        cases he
        split at hv
        · rename_i C T N hc
          obtain ⟨h1, hv⟩ := (Bool.and_eq_true _ _).mp hv
          obtain ⟨h2, hv⟩ := (Bool.and_eq_true _ _).mp hv
          obtain ⟨h3, h4⟩ := (Bool.and_eq_true _ _).mp hv
          obtain ⟨rfl, hci⟩ := of_decide_eq_true h1
          obtain ⟨ty0, hty, hnm, -⟩ := am_cls hc
          refine va_new (fs := am_fs ad hp.2.1 hp.1.length ci (am_nones n)) hx hb (am_hts hTW hc args) (fun _ h => h) ty0 hty hown (hTW.at (of_decide_eq_true h2) rfl args) (hTW.at (of_decide_eq_true h3) rfl args) (hTW.at (of_decide_eq_true h4) rfl args) hK hr.2.1 hr.2.2.1 hr.2.2.2.1 (fun q hq => Nat.le_trans hBs hq) hc (fun j hj => ?_) (Nat.le_trans hc1 hRc.1) (Nat.le_trans hc2 hRc.2) hdg (fun q H1 hP hD hS => ?_)
          · rw [vp_V, List.getD_eq_getElem?_getD, am_fs_at (by rw [am_nf_eq hc]; exact hj)]
            show _ = am_fv ad hp.2.1 hp.1.length ci (am_nones n) j
            have hp1 := hty j hj
            unfold am_fv
            cases hR : am_isR ci j with
            | true =>
              have h5 := am_refs hc hj hR
              unfold am_isRT at h5
              rw [hp1] at h5
              rw [am_nones_at]
              split at h5
              · rename_i h6
                rw [Option.some.inj h6]
                rfl
              · rename_i h6
                rw [Option.some.inj h6]
                rfl
              · cases h5
            | false =>
              show defaultValue (ty0 j) = .int (hp.2.1 hp.1.length j)
              rw [hz j]
              rcases am_isR_int hc hR with h6 | h6
              · rw [h6] at hp1
                rw [← Option.some.inj hp1]
                rfl
              · rw [h6] at hp1
                rw [← Option.some.inj hp1]
                rfl
          · have he : ∀ k, (k < hp.1.length ∨ 1000 ≤ k) → (fun k => if k = hp.1.length then q else ad k) k = ad k := by
              intro k hk
              have : k ≠ hp.1.length := by omega
              simp [this]
            have e : am_cw cA (fun k => if k = hp.1.length then q else ad k) (hp.1 ++ [(ci, 0, am_nones n)], hp.2.1, hp.2.2) = am_cw cA ad hp ++ [(q, .inr (ci, am_fs ad hp.2.1 hp.1.length ci (am_nones n)))] := by
              refine am_cw_app he g3 ?_
              simp only [List.mapIdx_cons, List.mapIdx_nil, Nat.zero_add]
              rw [am_cell_lt hci]
              have : am_fs (fun k => if k = hp.1.length then q else ad k) hp.2.1 hp.1.length ci (am_nones n) = am_fs ad hp.2.1 hp.1.length ci (am_nones n) := by
                unfold am_fs
                apply List.map_congr_left
                intro j _
                unfold am_fv
                rw [am_nones_at]
                rfl
              rw [this, if_pos trivial]
            rw [← e] at hP hD
            have k := h (fun k => if k = hp.1.length then q else ad k) H1 locs la (hr.nw he g1 (by simp) hc1 hc2 (by decide) hP hD hS)
            dsimp only at k
            rw [hpc, List.map_cons, am_rs_eq he g2, show am_v (fun k => if k = hp.1.length then q else ad k) (.ref hp.1.length) = .ref q by simp [am_v]] at k
            exact k
        · cases hv
      · cases hv
    · exact h.elim
  · exact h.elim
set_option maxHeartbeats 1000000 in
theorem am_s_newarray {p : Program} {l : Launch} {e : Env} {R : Room} {s : State} {m : MethodId} {args : Array Value} {below : List Frame} {meth : Method} {c : Code} {Qf : State → Prop} {D : va_G} {cA : Nat → ClassId} {B : Nat} {cd : List am_E} {nL mc ms n0 : Nat} {ad0 : Nat → Nat} {K : am_K} {I : am_I} {Tc : am_T} {Q : Option Value → am_H → Prop} {own : String} {bytes : ByteArray} {isI : Bool} {ret : Option FieldType} {Y : am_Y} (X : am_CX p R s m meth c D cA B cd nL mc ms ad0 K own bytes isI ret Y) {pc : Nat} {ty : ArrayType} {rs : List Nat} {im : Int32} {wl : List Nat} {is : List am_E} {ls : am_L} {st : List Value} {hp : am_H} {nc ns : Nat} (h : am_step K I Tc cd mc ms Q (am_PW p l e R s m args below meth c Qf D cA B cd nL mc ms n0 ad0) ((pc, .newarray ty, rs, im, wl) :: is, ls, st, hp, nc, ns)) : (am_PW p l e R s m args below meth c Qf D cA B cd nL mc ms n0 ad0) ((pc, .newarray ty, rs, im, wl) :: is, ls, st, hp, nc, ns) := by
  intro ad H locs la hr
  obtain ⟨hx, hb, hml, hown, hisI, hTW, hK, hCU, hBs, hRc, hRf, hV⟩ := X
  have hok := hV _ _ hr.1.1
  obtain ⟨hd, hv⟩ := (Bool.and_eq_true _ _).mp hok
  obtain ⟨hdg, hpc⟩ := am_d_spec hd
  dsimp only [am_step] at h
  split at h
  · rename_i kd n x r
    split at h
    · rename_i hg
      obtain ⟨g1, hg⟩ := (Bool.and_eq_true _ _).mp hg
      obtain ⟨g2, hg⟩ := (Bool.and_eq_true _ _).mp hg
      obtain ⟨g3, g4⟩ := (Bool.and_eq_true _ _).mp hg
      obtain ⟨⟨rfl, hc1, hc2, hz, hzX⟩, h⟩ := h
      have g4 := am_blt g4
      split at hv
      · rename_i kd2 n2 wi he
        cases he
        obtain ⟨h1, hv⟩ := (Bool.and_eq_true _ _).mp hv
        obtain ⟨h2, h3⟩ := (Bool.and_eq_true _ _).mp hv
        obtain ⟨hN, hneg, hbig⟩ := of_decide_eq_true h1
        have hkd := of_decide_eq_true h3
        have hcell : ∀ (t0 : Nat) (fty : FieldType) (a0 : vp_A), newarray.typeOf ty = fty → (am_tys cA)[t0]? = some (cA kd, fty) → (∀ c : ClassId, c = c → vp_cell c a0 = arrV c n (fun _ => defaultValue fty)) → refKind fty = false → n * componentBytes fty ≤ 536870912 → (∀ ad2 : Nat → Nat, am_cell cA ad2 hp.2.1 hp.2.2 hp.1.length (kd, n, []) = .inl (cA kd, a0)) → (∀ c2 : ClassId, va_RA s c2 fty → va_RA s (cA kd) fty → c2 = cA kd) → W p l e R s m args below meth c H locs nc ns Qf (F0 m pc la (.int x :: List.map (am_v ad) r)) := by
          intro t0 fty a0 hty ht ha hrk hbytes hac hinj
          refine va_newa hx hb (hTW.at (of_decide_eq_true h2) rfl args) hty hK hr.2.1 hr.2.2.1 hr.2.2.2.1 (fun q hq => Nat.le_trans hBs hq) (fun c => ha c rfl) hneg hN hbytes (Nat.le_trans hc1 hRc.1) (Nat.le_trans hc2 hRc.2) hdg (fun q c2 H1 hK2 hP hD hS => ?_)
          have hcc : c2 = cA kd := hinj c2 ((hK2.2 (am_tys cA).length (c2, fty) (by simp)).2) ((hK.2 t0 _ ht).2)
          subst hcc
          have he : ∀ k, (k < hp.1.length ∨ 1000 ≤ k) → (fun k => if k = hp.1.length then q else ad k) k = ad k := by
            intro k hk
            have : k ≠ hp.1.length := by omega
            simp [this]
          have e : am_cw cA (fun k => if k = hp.1.length then q else ad k) (hp.1 ++ [(kd, n, [])], hp.2.1, hp.2.2) = am_cw cA ad hp ++ [(q, .inl (cA kd, a0))] := by
            refine am_cw_app he g3 ?_
            simp only [List.mapIdx_cons, List.mapIdx_nil, Nat.zero_add]
            rw [hac, if_pos trivial]
          rw [← e] at hP hD
          have k := h (fun k => if k = hp.1.length then q else ad k) H1 locs la (hr.nw he g1 (by simp) hc1 hc2 (by decide) hP hD hS)
          dsimp only at k
          rw [hpc, List.map_cons, am_rs_eq he g2, show am_v (fun k => if k = hp.1.length then q else ad k) (.ref hp.1.length) = .ref q by simp [am_v]] at k
          exact k
        have hz2 : hp.2.1 hp.1.length = fun _ => 0 := funext hz
        have hz3 : hp.2.2 hp.1.length = fun _ => 0 := funext hzX
        have hb4 : ∀ b : Nat, b ≤ 8 → n * b ≤ 536870912 := fun b hb => Nat.le_trans (Nat.mul_le_mul hbig hb) (by decide)
        rcases hkd with ⟨rfl, rfl⟩ | ⟨rfl, rfl⟩ | ⟨rfl, rfl⟩ | ⟨rfl, rfl⟩
        · exact hcell 0 .int (n, .inl (hp.2.1 hp.1.length)) rfl rfl (fun c _ => by rw [vp_cell_i, hz2]; rfl) rfl (hb4 _ (by decide)) (fun _ => rfl) (fun c2 q1 q2 => Option.some.inj ((show s.vm.findClass _ = some c2 from q1).symm.trans (show s.vm.findClass _ = some (cA 100) from q2)))
        · exact hcell 1 .boolean (n, .inl (hp.2.1 hp.1.length)) rfl rfl (fun c _ => by rw [vp_cell_i, hz2]; rfl) rfl (hb4 _ (by decide)) (fun _ => rfl) (fun c2 q1 q2 => Option.some.inj ((show s.vm.findClass _ = some c2 from q1).symm.trans (show s.vm.findClass _ = some (cA 101) from q2)))
        · exact hcell 2 .byte (n, .inl (hp.2.1 hp.1.length)) rfl rfl (fun c _ => by rw [vp_cell_i, hz2]; rfl) rfl (hb4 _ (by decide)) (fun _ => rfl) (fun c2 q1 q2 => Option.some.inj ((show s.vm.findClass _ = some c2 from q1).symm.trans (show s.vm.findClass _ = some (cA 102) from q2)))
        · exact hcell 3 .long (n, .inr (.inl (hp.2.2 hp.1.length))) rfl rfl (fun c _ => by rw [vp_cell_l, hz3]; rfl) rfl (hb4 _ (by decide)) (fun _ => rfl) (fun c2 q1 q2 => Option.some.inj ((show s.vm.findClass _ = some c2 from q1).symm.trans (show s.vm.findClass _ = some (cA 103) from q2)))
      · cases hv
    · exact h.elim
  · exact h.elim
