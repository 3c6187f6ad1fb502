/-! ===== the law's run on the small machine ===== -/
set_option maxRecDepth 100000 in
set_option maxHeartbeats 4000000 in
theorem iv_start : INV (ex_den ex_u2) := by
  refine ⟨⟨?_, ?_⟩, ?_, ?_, ?_, ?_, ?_⟩
  · unfold iv_meet
    decide +kernel
  · unfold iv_rng iv_in iv_bit
    decide +kernel
  · intro h
    exact absurd h (by decide +kernel)
  · unfold iv_misc iv_in iv_bit
    decide +kernel
  · exact ⟨0, by omega, by decide +kernel, by decide +kernel, fun i hi => absurd hi (by omega)⟩
  · exact ⟨[], 0, ⟨by decide, by omega⟩, by decide +kernel, by decide +kernel, by decide +kernel, fun q l A T hq => absurd hq (by simp)⟩
  · refine ⟨[], by decide, by decide +kernel, by decide +kernel, fun q a b e hq => absurd hq (by simp), fun b hb => ?_, Or.inl ⟨by decide +kernel, ?_, Or.inl rfl⟩⟩
    · refine ⟨fun h => ?_, fun h => ?_⟩
      · exfalso
        have : bb (ex_den ex_u2 22 4) b = false := by
          show (0 : Int32).toBitVec.getLsbD b = false
          simp
        rw [this] at h
        exact absurd h (by decide)
      · obtain ⟨x, y, e, hm, -⟩ := h.2
        exact absurd hm (by simp)
    · intro h
      obtain ⟨a, ha⟩ := h
      exact ha (fun _ _ => False) (fun x y hm => absurd hm (by simp)) (fun x y z hm => absurd hm (by simp)) (fun x y z h _ => h)
set_option maxRecDepth 100000 in
set_option maxHeartbeats 4000000 in
theorem lw_run {L : Nat} {xs : Nat → Int32} (hL : L ≤ 3072) {Q : Option Value → am_H → Prop} {P : am_C → Prop} (hP : ∀ c, am_step (am_kc L xs) am_idx (am_run (am_kc L xs) am_idx am_m (0 + 50)) cd_L 105 66877 Q P c → P c) (hQ : ∀ hp : am_H, Q (some (.int 1)) hp) : P (cd_L, am_ent 4 [.ref 1000], [], ([], ex_den [], ex_w), 0, 0) := by
  refine hP _ ?_
  refine ⟨⟨Nat.le_of_ble_eq_true rfl, Nat.le_of_ble_eq_true rfl, fun j => rfl⟩, ?_⟩
  refine hP _ ?_
  refine hP _ ?_
  refine ⟨⟨Nat.le_of_ble_eq_true rfl, Nat.le_of_ble_eq_true rfl⟩, ?_⟩
  refine ex_snd 50 _ _ [(10, 0, am_nones 14)] [] 61 4005 _ _ _ ex_first ?_
  refine hP _ ?_
  refine hP _ ?_
  refine ⟨⟨Nat.le_of_ble_eq_true rfl, Nat.le_of_ble_eq_true rfl, fun j => ex_zero (n := 62) (by decide +kernel) _ j (Nat.le_of_ble_eq_true rfl)⟩, ?_⟩
  refine hP _ ?_
  refine hP _ ?_
  refine ⟨⟨Nat.le_of_ble_eq_true rfl, Nat.le_of_ble_eq_true rfl⟩, ?_⟩
  refine ex_snd 50 _ _ (am_sh.take 62 ++ [(11, 0, am_nones 63)]) ex_u1 42 62795 _ _ _ ex_second ?_
  refine hP _ ?_
  refine hP _ ?_
  refine hP _ ?_
  exact lw_loop (d := 0) hL lw_all hP hQ (L + 6) 0 (ex_den ex_u2) ex_w _ _ (by omega) (by omega) iv_start
