/-! ===== rows of ints ===== -/
theorem am_rows_at : ∀ (n b j : Nat), (am_rows b n).getD j none = if j < n then some (b + j) else none
  | 0, b, j => by simp [am_rows]
  | n + 1, b, 0 => by simp [am_rows]
  | n + 1, b, j + 1 => by
    simp only [am_rows, List.getD_cons_succ, am_rows_at n (b + 1) j]
    by_cases h : j < n
    · rw [if_pos h, if_pos (by omega)]
      congr 1
      omega
    · rw [if_neg h, if_neg (by omega)]
theorem am_reps_eq : ∀ (n : Nat) (z : am_S), am_reps n z = List.replicate n z
  | 0, _ => rfl
  | n + 1, z => by rw [am_reps, am_reps_eq n z]; rfl
theorem am_reps_len (n : Nat) (z : am_S) : (am_reps n z).length = n := by rw [am_reps_eq]; simp
set_option maxHeartbeats 1000000 in
theorem am_s_multianewarray {p : Program} {l : Launch} {e : Env} {R : Room} {s : State} {m : MethodId} {args : Array Value} {below : List Frame} {meth : Method} {c : Code} {Qf : State → Prop} {D : va_G} {cA : Nat → ClassId} {B : Nat} {cd : List am_E} {nL mc ms n0 : Nat} {ad0 : Nat → Nat} {K : am_K} {I : am_I} {Tc : am_T} {Q : Option Value → am_H → Prop} {own : String} {bytes : ByteArray} {isI : Bool} {ret : Option FieldType} {Y : am_Y} (X : am_CX p R s m meth c D cA B cd nL mc ms ad0 K own bytes isI ret Y) {pc : Nat} {i dims : Nat} {rs : List Nat} {im : Int32} {wl : List Nat} {is : List am_E} {ls : am_L} {st : List Value} {hp : am_H} {nc ns : Nat} (h : am_step K I Tc cd mc ms Q (am_PW p l e R s m args below meth c Qf D cA B cd nL mc ms n0 ad0) ((pc, .multianewarray i dims, rs, im, wl) :: is, ls, st, hp, nc, ns)) : (am_PW p l e R s m args below meth c Qf D cA B cd nL mc ms n0 ad0) ((pc, .multianewarray i dims, rs, im, wl) :: is, ls, st, hp, nc, ns) := by
  intro ad H locs la hr
  obtain ⟨hx, hb, hml, hown, hisI, hTW, hK, hCU, hBs, hRc, hRf, hV⟩ := X
  have hok := hV _ _ hr.1.1
  obtain ⟨hd, hv⟩ := (Bool.and_eq_true _ _).mp hok
  obtain ⟨hdg, hpc⟩ := am_d_spec hd
  dsimp only [am_step] at h
  split at h
  · rename_i n n2 y x r
    split at h
    · rename_i hg
      obtain ⟨g1, hg⟩ := (Bool.and_eq_true _ _).mp hg
      obtain ⟨g2, hg⟩ := (Bool.and_eq_true _ _).mp hg
      obtain ⟨g3, g4⟩ := (Bool.and_eq_true _ _).mp hg
      obtain ⟨⟨hx1, hy1, hc1, hc2, hz⟩, h⟩ := h
      have g4 := am_blt g4
      split at hv
      · rename_i n9 n8 wi wj wk he
        cases he
        obtain ⟨h1, hv⟩ := (Bool.and_eq_true _ _).mp hv
        obtain ⟨h2, hv⟩ := (Bool.and_eq_true _ _).mp hv
        obtain ⟨h3, h4⟩ := (Bool.and_eq_true _ _).mp hv
        obtain ⟨hN, hneg, hn2, hbig, hdm⟩ := of_decide_eq_true h1
        subst hdm
        have hn3 := hn2.symm
        subst hn3
        subst hx1
        subst hy1
        have hov : va_AOA .int s := hTW.at (of_decide_eq_true h3) rfl #[]
        have hcl : (Jvm.Cond.classLink own i ("[" ++ (FieldType.array .int).toString)).before args s = true := hTW.at (of_decide_eq_true h2) rfl args
        have hcy : s.vm.findClass (FieldType.array .int).toString = some (cA 100) := (hK.2 0 (cA 100, .int) rfl).2
        have hb4 : ∀ b : Nat, b ≤ 8 → n * b ≤ 536870912 := fun b hb => Nat.le_trans (Nat.mul_le_mul hbig hb) (by decide)
        refine va_mna (X := am_cw cA ad hp) (L := []) (f := fun _ => .inr (0, [])) (z := (n, .inl (fun _ => 0))) hx hb hown hcl hov (hTW.at (of_decide_eq_true h4) rfl args) hcy hK (by simpa [va_pl] using hr.2.1) (by simpa [va_pl] using hr.2.2.1) hr.2.2.2.1 (fun q hq => Nat.le_trans hBs hq) hneg hneg hN hN (hb4 _ (by decide)) (hb4 _ (by decide)) (Nat.le_trans hbig (by decide)) rfl rfl (Nat.le_trans hc1 hRc.1) (Nat.le_trans hc2 hRc.2) (fun c => ?_) hdg (fun q rr c2 H1 hinj hnl hK2 hP hD hS => ?_)
        · rw [vp_cell_i]
          show ({ cls := c, slots := Array.replicate n (.int 0), vm := .none } : Cell) = _
          rw [arrV_new]
        · have hcc : c2 = cA 104 := by
            have q1 := (hK2.2 (am_tys cA).length (c2, .array .int) (by simp)).2
            have q2 := (hK.2 4 (cA 104, .array .int) rfl).2
            exact Option.some.inj ((show s.vm.findClass ("[" ++ (FieldType.array .int).toString) = some c2 from q1).symm.trans (show s.vm.findClass ("[" ++ (FieldType.array .int).toString) = some (cA 104) from q2))
          subst hcc
          have he : ∀ k, (k < hp.1.length ∨ 1000 ≤ k) → (fun k => if k = hp.1.length then q else if hp.1.length < k ∧ k ≤ hp.1.length + n then rr (k - hp.1.length - 1) else ad k) k = ad k := by
            intro k hk
            have a1 : k ≠ hp.1.length := by omega
            have a2 : ¬ (hp.1.length < k ∧ k ≤ hp.1.length + n) := by omega
            simp [a1, a2]
          generalize had2 : (fun k => if k = hp.1.length then q else if hp.1.length < k ∧ k ≤ hp.1.length + n then rr (k - hp.1.length - 1) else ad k) = ad2 at he
          have b1 : ad2 hp.1.length = q := by rw [← had2]; simp
          have b2 : ∀ j, j < n → ad2 (hp.1.length + 1 + j) = rr j := by
            intro j hj
            rw [← had2]
            have a1 : ¬ hp.1.length + 1 + j = hp.1.length := by omega
            have a2 : hp.1.length < hp.1.length + 1 + j ∧ hp.1.length + 1 + j ≤ hp.1.length + n := by omega
            have a3 : hp.1.length + 1 + j - hp.1.length - 1 = j := by omega
            simp only [a1, a2, a3, if_false, and_self, if_true]
          have e : am_cw cA ad2 (hp.1 ++ ((104, n, am_rows (hp.1.length + 1) n) :: am_reps n (100, n, [])), hp.2.1, hp.2.2) = am_cw cA ad hp ++ ([(q, .inl (cA 104, n, .inr (.inr (.inr (.inr (fun i => if i < n then some (rr i) else none))))))] ++ va_pl ([] ++ (List.range n).map rr) (vr_up (fun _ => .inr (0, [])) ((List.range n).map rr) (.inl (cA 100, (n, .inl (fun _ => 0)))))) := by
            refine am_cw_app he g3 ?_
            rw [List.mapIdx_cons, Nat.zero_add, b1, List.singleton_append]
            congr 1
            · rw [am_cell_q]
              congr 4
              rw [show (fun j => ((am_rows (hp.1.length + 1) n).getD j none).map ad2) = (fun i => if i < n then some (rr i) else none) from funext (fun j => by
                rw [am_rows_at]
                by_cases hj : j < n
                · rw [if_pos hj, if_pos hj, Option.map_some, b2 j hj]
                · rw [if_neg hj, if_neg hj]; rfl)]
            · apply List.ext_getElem?
              intro j
              rw [List.getElem?_mapIdx, am_reps_eq, List.nil_append]
              simp only [va_pl, List.map_map, List.getElem?_map, List.getElem?_replicate]
              by_cases hj : j < n
              · rw [if_pos hj, List.getElem?_range hj]
                show some _ = some _
                congr 1
                have c1 : j + 1 + hp.1.length = hp.1.length + 1 + j := by omega
                rw [c1, b2 j hj]
                dsimp only
                rw [am_cell_i (Or.inl rfl)]
                have c2 : hp.2.1 (hp.1.length + 1 + j) = fun _ => 0 := funext (fun i => by
                  have := hz (j + 1) i (by omega)
                  rw [show hp.1.length + (j + 1) = hp.1.length + 1 + j by omega] at this
                  exact this)
                rw [c2]
                show _ = (rr j, vr_up _ _ _ (rr j))
                rw [vr_up_in (List.mem_map.mpr ⟨j, List.mem_range.mpr hj, rfl⟩)]
              · rw [if_neg hj, List.getElem?_eq_none (by rw [List.length_range]; omega)]
                rfl
          rw [List.append_assoc, ← e] at hP hD
          have k := h ad2 H1 locs la (hr.nw he g1 (by simp) hc1 hc2 (by omega) hP hD hS)
          dsimp only at k
          rw [hpc, List.map_cons, am_rs_eq he g2, show am_v ad2 (.ref hp.1.length) = .ref q by simp [am_v, b1]] at k
          rw [Nat.add_assoc, Nat.add_assoc]
          exact k
      · cases hv
    · exact h.elim
  · exact h.elim
