/-! ===== a breath: the class, whole ===== -/
theorem b2i_ne (b : Bool) : (b2i b = 0) ↔ b = false := by
  cases b
  · exact ⟨fun _ => rfl, fun _ => rfl⟩
  · exact ⟨fun h => absurd h (by decide), fun h => absurd h (by decide)⟩
section M65
variable {K : am_K} {I : am_I} {d : Nat} {v : am_V} {w : am_X} {Q : Option Value → am_H → Prop} {us : List lc_U} {z : Nat} {F : Nat → Int32}
set_option maxRecDepth 100000 in
set_option maxHeartbeats 4000000 in
theorem m_goFwd {x : Nat} (hx : kg4 x) {s : Int32} (h : Q none (am_sh, am_up v x 0 (f_mx 0 (v x 0 - s)), w)) : am_run K I am_m (d + 1) 20 [.ref x, .int s] (am_sh, v, w) 0 0 Q := by
  rcases hx with rfl | rfl | rfl | rfl
  all_goals
    refine en_X1_goForward rfl ?_
    intro P hP
    ((repeat' first | refine hP _ ?_ | fail); try dsimp only)
    exact h
set_option maxRecDepth 100000 in
set_option maxHeartbeats 4000000 in
theorem m_move {x : Nat} (hx : kg4 x) (hb : iv_bit (v x 9)) (h : Q none (am_sh, am_up (am_up (am_up v x 0 (bk_st (v x 0) (v x 6) (v x 4))) x 1 (bk_bw (v x 1) (v x 7) (v x 8))) x 3 (v x 9), w)) : am_run K I am_m (d + 2) 22 [.ref x] (am_sh, v, w) 0 0 Q := by
  unfold bk_st bk_bw at h
  rcases hx with rfl | rfl | rfl | rfl
  all_goals
    refine en_X1_move rfl ?_
    intro P hP
    ((repeat' first | refine hP _ ?_ | fail); try dsimp only)
    refine ⟨fun c => ?_, fun c => ?_⟩
    · rw [if_pos c] at h
      ((repeat' first | refine hP _ ?_ | fail); try dsimp only)
      refine m_goFwd (by unfold kg4; decide) ?_
      ((repeat' first | refine hP _ ?_ | fail); try dsimp only)
      refine ⟨by simpa [am_up_eq, iv_bit] using hb, ?_⟩
      ((repeat' first | refine hP _ ?_ | fail); try dsimp only)
      refine am_q ?_ h
      simp [am_up_eq, f_mx, f_mn]
      try rfl
    · rw [if_neg c] at h
      ((repeat' first | refine hP _ ?_ | fail); try dsimp only)
      refine ⟨by decide, ?_⟩
      ((repeat' first | refine hP _ ?_ | fail); try dsimp only)
      refine m_goFwd (by unfold kg4; decide) ?_
      ((repeat' first | refine hP _ ?_ | fail); try dsimp only)
      refine ⟨by simpa [am_up_eq, iv_bit] using hb, ?_⟩
      ((repeat' first | refine hP _ ?_ | fail); try dsimp only)
      refine am_q ?_ h
      simp [am_up_eq, f_mx, f_mn]
      try rfl
set_option maxRecDepth 100000 in
set_option maxHeartbeats 4000000 in
theorem m_takeOff {x y : Nat} (hxy : kgP x y) {mS mD : Int32} (hb : iv_bit (v x 3)) (hb2 : iv_bit (v y 3)) (h : Q none (am_sh, am_up v x 2 (bk_of (v x 0) (v y 0) (v x 1) (v y 1) (v x 3) (v y 3) mS mD (v x 2)), w)) : am_run K I am_m (d + 1) 23 [.ref x, .ref y, .int mS, .int mD] (am_sh, v, w) 0 0 Q := by
  unfold bk_of bk_mo at h
  rcases hxy with ⟨rfl, rfl⟩ | ⟨rfl, rfl⟩ | ⟨rfl, rfl⟩ | ⟨rfl, rfl⟩
  all_goals
    refine en_X1_takeOffence rfl ?_
    intro P hP
    ((repeat' first | refine hP _ ?_ | fail); try dsimp only)
    refine ⟨fun c1 => ?_, fun c1 => ?_⟩
    · rw [if_neg (Int32.not_lt.mpr c1)] at h
      ((repeat' first | refine hP _ ?_ | fail); try dsimp only)
      refine ⟨fun c2 => ?_, fun c2 => ?_⟩
      · rw [if_neg (Int32.not_lt.mpr c2)] at h
        ((repeat' first | refine hP _ ?_ | fail); try dsimp only)
        refine ⟨fun c3 => ?_, fun c3 => ?_⟩
        · rw [if_neg (fun q => c3 q.1)] at h
          ((repeat' first | refine hP _ ?_ | fail); try dsimp only)
          exact h
        · ((repeat' first | refine hP _ ?_ | fail); try dsimp only)
          refine ⟨fun c4 => ?_, fun c4 => ?_⟩
          · rw [if_neg (fun q => absurd (c4.symm.trans q.2) (by decide))] at h
            ((repeat' first | refine hP _ ?_ | fail); try dsimp only)
            exact h
          · rw [if_pos ⟨c3, iv_bit01 hb2 c4⟩] at h
            ((repeat' first | refine hP _ ?_ | fail); try dsimp only)
            exact h
      · rw [if_pos (Int32.not_le.mp c2), Int32.zero_add] at h
        ((repeat' first | refine hP _ ?_ | fail); try dsimp only)
        rw [Int32.zero_add]
        refine ⟨fun c3 => ?_, fun c3 => ?_⟩
        · rw [if_neg (fun q => c3 q.1), Int32.add_zero] at h
          ((repeat' first | refine hP _ ?_ | fail); try dsimp only)
          exact h
        · ((repeat' first | refine hP _ ?_ | fail); try dsimp only)
          refine ⟨fun c4 => ?_, fun c4 => ?_⟩
          · rw [if_neg (fun q => absurd (c4.symm.trans q.2) (by decide)), Int32.add_zero] at h
            ((repeat' first | refine hP _ ?_ | fail); try dsimp only)
            exact h
          · rw [if_pos ⟨c3, iv_bit01 hb2 c4⟩] at h
            ((repeat' first | refine hP _ ?_ | fail); try dsimp only)
            exact h
    · rw [if_pos (Int32.not_le.mp c1)] at h
      ((repeat' first | refine hP _ ?_ | fail); try dsimp only)
      refine ⟨fun c2 => ?_, fun c2 => ?_⟩
      · rw [if_neg (Int32.not_lt.mpr c2), Int32.add_zero] at h
        ((repeat' first | refine hP _ ?_ | fail); try dsimp only)
        refine ⟨fun c3 => ?_, fun c3 => ?_⟩
        · rw [if_neg (fun q => c3 q.1), Int32.add_zero] at h
          ((repeat' first | refine hP _ ?_ | fail); try dsimp only)
          exact h
        · ((repeat' first | refine hP _ ?_ | fail); try dsimp only)
          refine ⟨fun c4 => ?_, fun c4 => ?_⟩
          · rw [if_neg (fun q => absurd (c4.symm.trans q.2) (by decide)), Int32.add_zero] at h
            ((repeat' first | refine hP _ ?_ | fail); try dsimp only)
            exact h
          · rw [if_pos ⟨c3, iv_bit01 hb2 c4⟩] at h
            ((repeat' first | refine hP _ ?_ | fail); try dsimp only)
            exact h
      · rw [if_pos (Int32.not_le.mp c2)] at h
        ((repeat' first | refine hP _ ?_ | fail); try dsimp only)
        refine ⟨fun c3 => ?_, fun c3 => ?_⟩
        · rw [if_neg (fun q => c3 q.1), Int32.add_zero] at h
          ((repeat' first | refine hP _ ?_ | fail); try dsimp only)
          exact h
        · ((repeat' first | refine hP _ ?_ | fail); try dsimp only)
          refine ⟨fun c4 => ?_, fun c4 => ?_⟩
          · rw [if_neg (fun q => absurd (c4.symm.trans q.2) (by decide)), Int32.add_zero] at h
            ((repeat' first | refine hP _ ?_ | fail); try dsimp only)
            exact h
          · rw [if_pos ⟨c3, iv_bit01 hb2 c4⟩] at h
            ((repeat' first | refine hP _ ?_ | fail); try dsimp only)
            exact h
/-- who has arrived: bits -/
def arrB (r : Nat → Int32) : Int32 := (if r 0 = 0 then 1 else 0) + (if r 1 = 0 then 2 else 0)
def lefB (r : Nat → Int32) : Int32 := (if r 10 = 0 then 0 else 1) + (if r 11 = 0 then 0 else 2)
set_option maxRecDepth 100000 in
set_option maxHeartbeats 4000000 in
theorem m_arrived {c a b : Nat} (hm : mgP c a b) {r : Nat → Int32} (ht : mt v c a b r) (h : Q (some (.int (arrB r))) (am_sh, v, w)) : am_run K I am_m (d + 1) 64 [.ref c] (am_sh, v, w) 0 0 Q := by
  unfold arrB at h
  obtain ⟨⟨e0, e1, -⟩, -⟩ := ht
  rcases hm with ⟨rfl, rfl, rfl⟩ | ⟨rfl, rfl, rfl⟩
  all_goals
    refine en_X5_whoArrived rfl ?_
    intro P hP
    ((repeat' first | refine hP _ ?_ | fail); try dsimp only)
    rw [e0]
    refine ⟨fun c1 => ?_, fun c1 => ?_⟩
    · rw [if_neg c1] at h
      ((repeat' first | refine hP _ ?_ | fail); try dsimp only)
      rw [e1]
      refine ⟨fun c2 => ?_, fun c2 => ?_⟩
      · rw [if_neg c2] at h
        ((repeat' first | refine hP _ ?_ | fail); try dsimp only)
        exact h
      · rw [if_pos c2] at h
        ((repeat' first | refine hP _ ?_ | fail); try dsimp only)
        exact h
    · rw [if_pos c1] at h
      ((repeat' first | refine hP _ ?_ | fail); try dsimp only)
      rw [e1]
      refine ⟨fun c2 => ?_, fun c2 => ?_⟩
      · rw [if_neg c2] at h
        ((repeat' first | refine hP _ ?_ | fail); try dsimp only)
        exact h
      · rw [if_pos c2] at h
        ((repeat' first | refine hP _ ?_ | fail); try dsimp only)
        exact h
set_option maxRecDepth 100000 in
set_option maxHeartbeats 4000000 in
theorem m_whoLeft {c a b : Nat} (hm : mgP c a b) {r : Nat → Int32} (ht : mt v c a b r) (h : Q (some (.int (lefB r))) (am_sh, v, w)) : am_run K I am_m (d + 1) 66 [.ref c] (am_sh, v, w) 0 0 Q := by
  unfold lefB at h
  obtain ⟨-, ⟨-, -, -, -, e0, e1⟩, -⟩ := ht
  rcases hm with ⟨rfl, rfl, rfl⟩ | ⟨rfl, rfl, rfl⟩
  all_goals
    refine en_X5_whoLeft rfl ?_
    intro P hP
    ((repeat' first | refine hP _ ?_ | fail); try dsimp only)
    rw [e0]
    refine ⟨fun c1 => ?_, fun c1 => ?_⟩
    · rw [if_pos c1] at h
      ((repeat' first | refine hP _ ?_ | fail); try dsimp only)
      rw [e1]
      refine ⟨fun c2 => ?_, fun c2 => ?_⟩
      · rw [if_pos c2] at h
        ((repeat' first | refine hP _ ?_ | fail); try dsimp only)
        exact h
      · rw [if_neg c2] at h
        ((repeat' first | refine hP _ ?_ | fail); try dsimp only)
        exact h
    · rw [if_neg c1] at h
      ((repeat' first | refine hP _ ?_ | fail); try dsimp only)
      rw [e1]
      refine ⟨fun c2 => ?_, fun c2 => ?_⟩
      · rw [if_pos c2] at h
        ((repeat' first | refine hP _ ?_ | fail); try dsimp only)
        exact h
      · rw [if_neg c2] at h
        ((repeat' first | refine hP _ ?_ | fail); try dsimp only)
        exact h
theorem arrB_3 {r : Nat → Int32} : arrB r = 3 ↔ (r 0 = 0 ∧ r 1 = 0) := by
  unfold arrB
  by_cases a : r 0 = 0 <;> by_cases b : r 1 = 0
  · rw [if_pos a, if_pos b]
    exact ⟨fun _ => ⟨a, b⟩, fun _ => rfl⟩
  · rw [if_pos a, if_neg b]
    exact ⟨fun h => absurd h (by decide), fun h => absurd h.2 b⟩
  · rw [if_neg a, if_pos b]
    exact ⟨fun h => absurd h (by decide), fun h => absurd h.1 a⟩
  · rw [if_neg a, if_neg b]
    exact ⟨fun h => absurd h (by decide), fun h => absurd h.1 a⟩
theorem lefB_0 {r : Nat → Int32} : lefB r = 0 ↔ (r 10 = 0 ∧ r 11 = 0) := by
  unfold lefB
  by_cases a : r 10 = 0 <;> by_cases b : r 11 = 0
  · rw [if_pos a, if_pos b]
    exact ⟨fun _ => ⟨a, b⟩, fun _ => rfl⟩
  · rw [if_pos a, if_neg b]
    exact ⟨fun h => absurd h (by decide), fun h => absurd h.2 b⟩
  · rw [if_neg a, if_pos b]
    exact ⟨fun h => absurd h (by decide), fun h => absurd h.1 a⟩
  · rw [if_neg a, if_neg b]
    exact ⟨fun h => absurd h (by decide), fun h => absurd h.1 a⟩
set_option maxRecDepth 100000 in
set_option maxHeartbeats 4000000 in
theorem m_haveMet {c a b : Nat} (hm : mgP c a b) {r : Nat → Int32} (ht : mt v c a b r) (h1 : (r 0 = 0 ∧ r 1 = 0) → Q (some (.int 1)) (am_sh, v, w)) (h0 : ¬ (r 0 = 0 ∧ r 1 = 0) → Q (some (.int 0)) (am_sh, v, w)) : am_run K I am_m (d + 2) 65 [.ref c] (am_sh, v, w) 0 0 Q := by
  have hm' := hm
  rcases hm with ⟨rfl, rfl, rfl⟩ | ⟨rfl, rfl, rfl⟩
  all_goals
    refine en_X5_haveMet rfl ?_
    intro P hP
    ((repeat' first | refine hP _ ?_ | fail); try dsimp only)
    refine m_arrived hm' ht ?_
    ((repeat' first | refine hP _ ?_ | fail); try dsimp only)
    refine ⟨fun c => ?_, fun c => ?_⟩
    · ((repeat' first | refine hP _ ?_ | fail); try dsimp only)
      exact ⟨Or.inl rfl, h0 (fun q => c (arrB_3.mpr q))⟩
    · ((repeat' first | refine hP _ ?_ | fail); try dsimp only)
      exact ⟨Or.inr rfl, h1 (arrB_3.mp c)⟩
set_option maxRecDepth 100000 in
set_option maxHeartbeats 4000000 in
theorem m_breathe_30 {r : Nat → Int32} (ht : mt v 30 (30 + 1) (30 + 2) r) (hr : rg r) (hl : lw_is v us z) {mS mD : Int32} (h0 : ¬ goB r → Q (some (.int 0)) (am_sh, v, w)) (h1 : goB r → ∀ v' : am_V, (∀ k, k ≠ 30 → k ≠ 30 + 1 → k ≠ 30 + 2 → k ≠ 8 → k ≠ 9 → v' k = v k) → mt v' 30 (30 + 1) (30 + 2) (bt us mS mD r) → Q (some (.int 1)) (am_sh, v', w)) : am_run K I am_m (d + 5) 69 [.ref 30, .ref 3, .int mS, .int mD] (am_sh, v, w) 0 0 Q := by
  have hm : mgP 30 (30 + 1) (30 + 2) := by unfold mgP; decide
  have ka : kg4 (30 + 1) := by unfold kg4; decide
  have kb : kg4 (30 + 2) := by unfold kg4; decide
  have pab : kgP (30 + 1) (30 + 2) := by unfold kgP; decide
  have pba : kgP (30 + 2) (30 + 1) := by unfold kgP; decide
  refine en_X5_breathe rfl ?_
  intro P hP
  have no : ¬ goB r → P (cd_X5_breathe.drop 10, [some (.ref 30), some (.ref 3), some (.int mS), some (.int mD)], [], (am_sh, v, w), 0, 0) := by
    intro g
    ((repeat' first | refine hP _ ?_ | fail); try dsimp only)
    exact ⟨Or.inl rfl, h0 g⟩
  ((repeat' first | refine hP _ ?_ | fail); try dsimp only)
  refine m_haveMet hm ht (fun q => ?_) (fun q1 => ?_)
  · ((repeat' first | refine hP _ ?_ | fail); try dsimp only)
    refine ⟨fun _ => no (fun g => g.1 q), fun c => absurd c (by decide)⟩
  · ((repeat' first | refine hP _ ?_ | fail); try dsimp only)
    refine ⟨fun c => absurd rfl c, fun _ => ?_⟩
    ((repeat' first | refine hP _ ?_ | fail); try dsimp only)
    refine m_whoLeft hm ht ?_
    ((repeat' first | refine hP _ ?_ | fail); try dsimp only)
    refine ⟨fun c => no (fun g => c (lefB_0.mpr g.2.1)), fun q2 => ?_⟩
    have q2 := lefB_0.mp q2
    obtain ⟨⟨a0, b0, a1, b1, a2, b2⟩, ⟨a3, b3, a4, b4, a5, b5⟩, c2, c3⟩ := ht
    obtain ⟨-, ⟨r6, r7, r8, r9, r10, r11⟩, -⟩ := hr
    ((repeat' first | refine hP _ ?_ | fail); try dsimp only)
    rw [c2]
    refine ⟨fun q3 => ?_, fun c => no (fun g => c g.2.2)⟩
    have h1 := h1 ⟨q1, q2, q3⟩
    -- the first king is asked
    ((repeat' first | refine hP _ ?_ | fail); try dsimp only)
    refine m_draw (by decide) ?_
    ((repeat' first | refine hP _ ?_ | fail); try dsimp only)
    rw [c3]
    generalize hv1 : am_up v 30 3 (bt_lot (r 13)) = v1
    have f1 : ∀ k, k ≠ 30 → v1 k = v k := fun k hk => by rw [← hv1, am_up_ne _ _ _ hk]
    refine m_lookAt pab (by rw [f1 _ (by decide), b3]; exact r7) (fun v2 f2 F2 => ?_)
    have g2 : ∀ k, k ≠ 30 → k ≠ 9 → v2 k = v k := fun k hk h9 => by rw [f2 k h9, f1 k hk]
    have F2' : ∀ a, a < 10 → v2 9 a = bt_F0 r a := fun a ha => by
      rw [F2 a ha, f1 _ (by decide), f1 _ (by decide), a0, b0, a1, b1, a2, b2, b3, c2]
      rfl
    have l2 : lw_is v2 us z := lw_is_of hl (fun k hk => g2 k (by revert k; decide) (by revert k; decide)) (by rw [g2 62 (by decide) (by decide)])
    ((repeat' first | refine hP _ ?_ | fail); try dsimp only)
    refine m_ask ka l2 F2' (by rw [g2 _ (by decide) (by decide), a3]; exact r6) (fun v3 f3 s3 w6 w7 w8 w9 w10 => ?_)
    have g3 : ∀ k, k ≠ 30 → k ≠ 9 → k ≠ 8 → k ≠ 30 + 1 → v3 k = v k := fun k h1 h2 h3 h4 => by rw [f3 k h3 h4, g2 k h1 h2]
    have x3 : v3 30 3 = bt_lot (r 13) := by
      rw [f3 _ (by decide) (by decide), f2 _ (by decide), ← hv1, am_up_eq, if_pos ⟨rfl, rfl⟩]
    have y3 : v3 30 2 = r 12 := by
      rw [f3 _ (by decide) (by decide), f2 _ (by decide), ← hv1, am_up_eq, if_neg (by decide), c2]
    have z3 : ∀ j, j < 6 → v3 (30 + 1) j = v (30 + 1) j := fun j hj => by rw [s3 j hj, g2 _ (by decide) (by decide)]
    rw [g2 (30 + 1) (by decide) (by decide), a3] at w9
    -- the other king is asked
    ((repeat' first | refine hP _ ?_ | fail); try dsimp only)
    refine m_draw (by decide) ?_
    ((repeat' first | refine hP _ ?_ | fail); try dsimp only)
    rw [x3]
    generalize hv4 : am_up v3 30 3 (bt_lot (bt_lot (r 13))) = v4
    have f4 : ∀ k, k ≠ 30 → v4 k = v3 k := fun k hk => by rw [← hv4, am_up_ne _ _ _ hk]
    refine m_lookAt pba (by rw [f4 _ (by decide), z3 3 (by decide), a3]; exact r6) (fun v5 f5 F5 => ?_)
    have g5 : ∀ k, k ≠ 30 → k ≠ 9 → v5 k = v3 k := fun k h1 h2 => by rw [f5 k h2, f4 k h1]
    have F5' : ∀ a, a < 10 → v5 9 a = bt_F1 r a := fun a ha => by
      rw [F5 a ha, f4 _ (by decide), f4 _ (by decide), g3 (30 + 2) (by decide) (by decide) (by decide) (by decide), z3 0 (by decide), z3 1 (by decide), z3 2 (by decide), z3 3 (by decide), a0, b0, a1, b1, a2, b2, a3, y3]
      rfl
    have l5 : lw_is v5 us z := lw_is_of hl (fun k hk => by
      have t : k ≠ 30 ∧ k ≠ 9 ∧ k ≠ 8 ∧ k ≠ 30 + 1 := by revert k; decide
      rw [g5 k t.1 t.2.1, g3 k t.1 t.2.1 t.2.2.1 t.2.2.2]) (by rw [g5 62 (by decide) (by decide), g3 62 (by decide) (by decide) (by decide) (by decide)])
    ((repeat' first | refine hP _ ?_ | fail); try dsimp only)
    refine m_ask kb l5 F5' (by rw [g5 _ (by decide) (by decide), g3 _ (by decide) (by decide) (by decide) (by decide), b3]; exact r7) (fun v6 f6 s6 u6 u7 u8 u9 u10 => ?_)
    rw [g5 (30 + 2) (by decide) (by decide), g3 (30 + 2) (by decide) (by decide) (by decide) (by decide), b3] at u9
    have A6 : v6 (30 + 1) = v3 (30 + 1) := by rw [f6 _ (by decide) (by decide), g5 _ (by decide) (by decide)]
    have B6 : ∀ j, j < 6 → v6 (30 + 2) j = v (30 + 2) j := fun j hj => by rw [s6 j hj, g5 _ (by decide) (by decide), g3 _ (by decide) (by decide) (by decide) (by decide)]
    have x6 : v6 30 3 = bt_lot (bt_lot (r 13)) := by
      rw [f6 _ (by decide) (by decide), f5 _ (by decide), ← hv4, am_up_eq, if_pos ⟨rfl, rfl⟩]
    have y6 : v6 30 2 = r 12 := by
      rw [f6 _ (by decide) (by decide), f5 _ (by decide), ← hv4, am_up_eq, if_neg (by decide), y3]
    have g6 : ∀ k, k ≠ 30 → k ≠ 30 + 1 → k ≠ 30 + 2 → k ≠ 8 → k ≠ 9 → v6 k = v k := fun k h1 h2 h3 h4 h5 => by rw [f6 k h4 h3, g5 k h1 h5, g3 k h1 h5 h4 h2]
    rw [← A6] at w6 w7 w8 w9 w10
    have z6 : ∀ j, j < 6 → v6 (30 + 1) j = v (30 + 1) j := fun j hj => by rw [A6]; exact z3 j hj
    -- both move
    ((repeat' first | refine hP _ ?_ | fail); try dsimp only)
    refine m_move ka (by rw [w9]; exact bk_hat_bit r6) ?_
    rw [w6, w7, w8, w9, z6 0 (by decide), z6 1 (by decide), z6 4 (by decide), a0, a1, a4]
    generalize hv7 : am_up (am_up (am_up v6 (30 + 1) 0 _) (30 + 1) 1 _) (30 + 1) 3 _ = v7
    have p7 : ∀ k, k ≠ 30 + 1 → v7 k = v6 k := fun k hk => by rw [← hv7, am_up_ne _ _ _ hk, am_up_ne _ _ _ hk, am_up_ne _ _ _ hk]
    have a70 : v7 (30 + 1) 0 = bt_s0 us r := by rw [← hv7]; simp [am_up_eq, bt_s0]
    have a71 : v7 (30 + 1) 1 = bt_b0 us r := by rw [← hv7]; simp [am_up_eq, bt_b0]
    have a73 : v7 (30 + 1) 3 = bt_h0 us r := by rw [← hv7]; simp [am_up_eq, bt_h0]
    have a7 : ∀ j, j ≠ 0 → j ≠ 1 → j ≠ 3 → v7 (30 + 1) j = v6 (30 + 1) j := fun j h0 h1 h3 => by rw [← hv7]; simp [am_up_eq, h0, h1, h3]
    ((repeat' first | refine hP _ ?_ | fail); try dsimp only)
    refine m_move kb (by rw [p7 _ (by decide), u9]; exact bk_hat_bit r7) ?_
    rw [p7 (30 + 2) (by decide), u6, u7, u8, u9, B6 0 (by decide), B6 1 (by decide), B6 4 (by decide), b0, b1, b4]
    generalize hv8 : am_up (am_up (am_up v7 (30 + 2) 0 _) (30 + 2) 1 _) (30 + 2) 3 _ = v8
    have p8 : ∀ k, k ≠ 30 + 2 → v8 k = v7 k := fun k hk => by rw [← hv8, am_up_ne _ _ _ hk, am_up_ne _ _ _ hk, am_up_ne _ _ _ hk]
    have b80 : v8 (30 + 2) 0 = bt_s1 us r := by rw [← hv8]; simp [am_up_eq, bt_s1]
    have b81 : v8 (30 + 2) 1 = bt_b1 us r := by rw [← hv8]; simp [am_up_eq, bt_b1]
    have b83 : v8 (30 + 2) 3 = bt_h1 us r := by rw [← hv8]; simp [am_up_eq, bt_h1]
    have b8 : ∀ j, j ≠ 0 → j ≠ 1 → j ≠ 3 → v8 (30 + 2) j = v6 (30 + 2) j := fun j h0 h1 h3 => by rw [← hv8]; simp [am_up_eq, h0, h1, h3, p7]
    have A8 : v8 (30 + 1) = v7 (30 + 1) := p8 _ (by decide)
    -- both take offence
    ((repeat' first | refine hP _ ?_ | fail); try dsimp only)
    refine m_takeOff pab (by rw [A8, a73]; exact bk_hat_bit r6) (by rw [b83]; exact bk_hat_bit r7) ?_
    rw [A8, a70, a71, a73, b80, b81, b83, a7 2 (by decide) (by decide) (by decide), z6 2 (by decide), a2]
    generalize hv9 : am_up v8 (30 + 1) 2 _ = v9
    have p9 : ∀ k, k ≠ 30 + 1 → v9 k = v8 k := fun k hk => by rw [← hv9, am_up_ne _ _ _ hk]
    have a92 : v9 (30 + 1) 2 = bt us mS mD r 4 := by rw [← hv9]; simp [am_up_eq, bt]
    have a9 : ∀ j, j ≠ 2 → v9 (30 + 1) j = v7 (30 + 1) j := fun j hj => by rw [← hv9]; simp [am_up_eq, hj, A8]
    ((repeat' first | refine hP _ ?_ | fail); try dsimp only)
    refine m_takeOff pba (by rw [p9 _ (by decide), b83]; exact bk_hat_bit r7) (by rw [a9 3 (by decide), a73]; exact bk_hat_bit r6) ?_
    rw [p9 (30 + 2) (by decide), a9 0 (by decide), a9 1 (by decide), a9 3 (by decide), a70, a71, a73, b80, b81, b83, b8 2 (by decide) (by decide) (by decide), B6 2 (by decide), b2]
    generalize hvA : am_up v9 (30 + 2) 2 _ = vA
    have pA : ∀ k, k ≠ 30 + 2 → vA k = v9 k := fun k hk => by rw [← hvA, am_up_ne _ _ _ hk]
    have bA2 : vA (30 + 2) 2 = bt us mS mD r 5 := by rw [← hvA]; simp [am_up_eq, bt]
    have bA : ∀ j, j ≠ 2 → vA (30 + 2) j = v8 (30 + 2) j := fun j hj => by rw [← hvA]; simp [am_up_eq, hj, p9]
    have eA : vA (30 + 1) 10 = b2i (lwH (bt_F0 r) 120 us) := by rw [pA _ (by decide), a9 10 (by decide), a7 10 (by decide) (by decide) (by decide), w10]
    have eB : vA (30 + 2) 10 = b2i (lwH (bt_F1 r) 120 us) := by rw [bA 10 (by decide), b8 10 (by decide) (by decide) (by decide), u10]
    -- both may leave
    ((repeat' first | refine hP _ ?_ | fail); try dsimp only)
    rw [eA]
    refine ⟨b2i_bit _, ?_⟩
    ((repeat' first | refine hP _ ?_ | fail); try dsimp only)
    rw [am_up_ne _ _ _ (show (30 + 2 : Nat) ≠ 30 + 1 by decide), eB]
    refine ⟨b2i_bit _, ?_⟩
    ((repeat' first | refine hP _ ?_ | fail); try dsimp only)
    have ec : am_up (am_up vA (30 + 1) 5 (b2i (lwH (bt_F0 r) 120 us))) (30 + 2) 5 (b2i (lwH (bt_F1 r) 120 us)) 30 2 = r 12 := by
      rw [am_up_ne _ _ _ (by decide), am_up_ne _ _ _ (by decide), pA _ (by decide), p9 _ (by decide), p8 _ (by decide), p7 _ (by decide), y6]
    rw [ec]
    refine ⟨Or.inr rfl, h1 _ (fun k k1 k2 k3 k4 k5 => ?_) ⟨⟨?_, ?_, ?_, ?_, ?_, ?_⟩, ⟨?_, ?_, ?_, ?_, ?_, ?_⟩, ?_, ?_⟩⟩
    · rw [am_up_ne _ _ _ k1, am_up_ne _ _ _ k3, am_up_ne _ _ _ k2, pA k k3, p9 k k2, p8 k k3, p7 k k2, g6 k k1 k2 k3 k4 k5]
    · simp [am_up_eq, bt, pA, a9, a70]
    · simp [am_up_eq, bt, bA, b80]
    · simp [am_up_eq, bt, pA, a9, a71]
    · simp [am_up_eq, bt, bA, b81]
    · simp [am_up_eq, pA, a92]
    · simp [am_up_eq, bA2]
    · simp [am_up_eq, bt, pA, a9, a73]
    · simp [am_up_eq, bt, bA, b83]
    · simp [am_up_eq, bt, pA, a9, a7, z6, a4]
    · simp [am_up_eq, bt, bA, b8, B6, b4]
    · simp [am_up_eq, bt]
    · simp [am_up_eq, bt]
    · simp [am_up_eq, bt]
    · simp [am_up_eq, bt, pA, p9, p8, p7, x6]
set_option maxRecDepth 100000 in
set_option maxHeartbeats 4000000 in
theorem m_breathe_33 {r : Nat → Int32} (ht : mt v 33 (33 + 1) (33 + 2) r) (hr : rg r) (hl : lw_is v us z) {mS mD : Int32} (h0 : ¬ goB r → Q (some (.int 0)) (am_sh, v, w)) (h1 : goB r → ∀ v' : am_V, (∀ k, k ≠ 33 → k ≠ 33 + 1 → k ≠ 33 + 2 → k ≠ 8 → k ≠ 9 → v' k = v k) → mt v' 33 (33 + 1) (33 + 2) (bt us mS mD r) → Q (some (.int 1)) (am_sh, v', w)) : am_run K I am_m (d + 5) 69 [.ref 33, .ref 3, .int mS, .int mD] (am_sh, v, w) 0 0 Q := by
  have hm : mgP 33 (33 + 1) (33 + 2) := by unfold mgP; decide
  have ka : kg4 (33 + 1) := by unfold kg4; decide
  have kb : kg4 (33 + 2) := by unfold kg4; decide
  have pab : kgP (33 + 1) (33 + 2) := by unfold kgP; decide
  have pba : kgP (33 + 2) (33 + 1) := by unfold kgP; decide
  refine en_X5_breathe rfl ?_
  intro P hP
  have no : ¬ goB r → P (cd_X5_breathe.drop 10, [some (.ref 33), some (.ref 3), some (.int mS), some (.int mD)], [], (am_sh, v, w), 0, 0) := by
    intro g
    ((repeat' first | refine hP _ ?_ | fail); try dsimp only)
    exact ⟨Or.inl rfl, h0 g⟩
  ((repeat' first | refine hP _ ?_ | fail); try dsimp only)
  refine m_haveMet hm ht (fun q => ?_) (fun q1 => ?_)
  · ((repeat' first | refine hP _ ?_ | fail); try dsimp only)
    refine ⟨fun _ => no (fun g => g.1 q), fun c => absurd c (by decide)⟩
  · ((repeat' first | refine hP _ ?_ | fail); try dsimp only)
    refine ⟨fun c => absurd rfl c, fun _ => ?_⟩
    ((repeat' first | refine hP _ ?_ | fail); try dsimp only)
    refine m_whoLeft hm ht ?_
    ((repeat' first | refine hP _ ?_ | fail); try dsimp only)
    refine ⟨fun c => no (fun g => c (lefB_0.mpr g.2.1)), fun q2 => ?_⟩
    have q2 := lefB_0.mp q2
    obtain ⟨⟨a0, b0, a1, b1, a2, b2⟩, ⟨a3, b3, a4, b4, a5, b5⟩, c2, c3⟩ := ht
    obtain ⟨-, ⟨r6, r7, r8, r9, r10, r11⟩, -⟩ := hr
    ((repeat' first | refine hP _ ?_ | fail); try dsimp only)
    rw [c2]
    refine ⟨fun q3 => ?_, fun c => no (fun g => c g.2.2)⟩
    have h1 := h1 ⟨q1, q2, q3⟩
    -- the first king is asked
    ((repeat' first | refine hP _ ?_ | fail); try dsimp only)
    refine m_draw (by decide) ?_
    ((repeat' first | refine hP _ ?_ | fail); try dsimp only)
    rw [c3]
    generalize hv1 : am_up v 33 3 (bt_lot (r 13)) = v1
    have f1 : ∀ k, k ≠ 33 → v1 k = v k := fun k hk => by rw [← hv1, am_up_ne _ _ _ hk]
    refine m_lookAt pab (by rw [f1 _ (by decide), b3]; exact r7) (fun v2 f2 F2 => ?_)
    have g2 : ∀ k, k ≠ 33 → k ≠ 9 → v2 k = v k := fun k hk h9 => by rw [f2 k h9, f1 k hk]
    have F2' : ∀ a, a < 10 → v2 9 a = bt_F0 r a := fun a ha => by
      rw [F2 a ha, f1 _ (by decide), f1 _ (by decide), a0, b0, a1, b1, a2, b2, b3, c2]
      rfl
    have l2 : lw_is v2 us z := lw_is_of hl (fun k hk => g2 k (by revert k; decide) (by revert k; decide)) (by rw [g2 62 (by decide) (by decide)])
    ((repeat' first | refine hP _ ?_ | fail); try dsimp only)
    refine m_ask ka l2 F2' (by rw [g2 _ (by decide) (by decide), a3]; exact r6) (fun v3 f3 s3 w6 w7 w8 w9 w10 => ?_)
    have g3 : ∀ k, k ≠ 33 → k ≠ 9 → k ≠ 8 → k ≠ 33 + 1 → v3 k = v k := fun k h1 h2 h3 h4 => by rw [f3 k h3 h4, g2 k h1 h2]
    have x3 : v3 33 3 = bt_lot (r 13) := by
      rw [f3 _ (by decide) (by decide), f2 _ (by decide), ← hv1, am_up_eq, if_pos ⟨rfl, rfl⟩]
    have y3 : v3 33 2 = r 12 := by
      rw [f3 _ (by decide) (by decide), f2 _ (by decide), ← hv1, am_up_eq, if_neg (by decide), c2]
    have z3 : ∀ j, j < 6 → v3 (33 + 1) j = v (33 + 1) j := fun j hj => by rw [s3 j hj, g2 _ (by decide) (by decide)]
    rw [g2 (33 + 1) (by decide) (by decide), a3] at w9
    -- the other king is asked
    ((repeat' first | refine hP _ ?_ | fail); try dsimp only)
    refine m_draw (by decide) ?_
    ((repeat' first | refine hP _ ?_ | fail); try dsimp only)
    rw [x3]
    generalize hv4 : am_up v3 33 3 (bt_lot (bt_lot (r 13))) = v4
    have f4 : ∀ k, k ≠ 33 → v4 k = v3 k := fun k hk => by rw [← hv4, am_up_ne _ _ _ hk]
    refine m_lookAt pba (by rw [f4 _ (by decide), z3 3 (by decide), a3]; exact r6) (fun v5 f5 F5 => ?_)
    have g5 : ∀ k, k ≠ 33 → k ≠ 9 → v5 k = v3 k := fun k h1 h2 => by rw [f5 k h2, f4 k h1]
    have F5' : ∀ a, a < 10 → v5 9 a = bt_F1 r a := fun a ha => by
      rw [F5 a ha, f4 _ (by decide), f4 _ (by decide), g3 (33 + 2) (by decide) (by decide) (by decide) (by decide), z3 0 (by decide), z3 1 (by decide), z3 2 (by decide), z3 3 (by decide), a0, b0, a1, b1, a2, b2, a3, y3]
      rfl
    have l5 : lw_is v5 us z := lw_is_of hl (fun k hk => by
      have t : k ≠ 33 ∧ k ≠ 9 ∧ k ≠ 8 ∧ k ≠ 33 + 1 := by revert k; decide
      rw [g5 k t.1 t.2.1, g3 k t.1 t.2.1 t.2.2.1 t.2.2.2]) (by rw [g5 62 (by decide) (by decide), g3 62 (by decide) (by decide) (by decide) (by decide)])
    ((repeat' first | refine hP _ ?_ | fail); try dsimp only)
    refine m_ask kb l5 F5' (by rw [g5 _ (by decide) (by decide), g3 _ (by decide) (by decide) (by decide) (by decide), b3]; exact r7) (fun v6 f6 s6 u6 u7 u8 u9 u10 => ?_)
    rw [g5 (33 + 2) (by decide) (by decide), g3 (33 + 2) (by decide) (by decide) (by decide) (by decide), b3] at u9
    have A6 : v6 (33 + 1) = v3 (33 + 1) := by rw [f6 _ (by decide) (by decide), g5 _ (by decide) (by decide)]
    have B6 : ∀ j, j < 6 → v6 (33 + 2) j = v (33 + 2) j := fun j hj => by rw [s6 j hj, g5 _ (by decide) (by decide), g3 _ (by decide) (by decide) (by decide) (by decide)]
    have x6 : v6 33 3 = bt_lot (bt_lot (r 13)) := by
      rw [f6 _ (by decide) (by decide), f5 _ (by decide), ← hv4, am_up_eq, if_pos ⟨rfl, rfl⟩]
    have y6 : v6 33 2 = r 12 := by
      rw [f6 _ (by decide) (by decide), f5 _ (by decide), ← hv4, am_up_eq, if_neg (by decide), y3]
    have g6 : ∀ k, k ≠ 33 → k ≠ 33 + 1 → k ≠ 33 + 2 → k ≠ 8 → k ≠ 9 → v6 k = v k := fun k h1 h2 h3 h4 h5 => by rw [f6 k h4 h3, g5 k h1 h5, g3 k h1 h5 h4 h2]
    rw [← A6] at w6 w7 w8 w9 w10
    have z6 : ∀ j, j < 6 → v6 (33 + 1) j = v (33 + 1) j := fun j hj => by rw [A6]; exact z3 j hj
    -- both move
    ((repeat' first | refine hP _ ?_ | fail); try dsimp only)
    refine m_move ka (by rw [w9]; exact bk_hat_bit r6) ?_
    rw [w6, w7, w8, w9, z6 0 (by decide), z6 1 (by decide), z6 4 (by decide), a0, a1, a4]
    generalize hv7 : am_up (am_up (am_up v6 (33 + 1) 0 _) (33 + 1) 1 _) (33 + 1) 3 _ = v7
    have p7 : ∀ k, k ≠ 33 + 1 → v7 k = v6 k := fun k hk => by rw [← hv7, am_up_ne _ _ _ hk, am_up_ne _ _ _ hk, am_up_ne _ _ _ hk]
    have a70 : v7 (33 + 1) 0 = bt_s0 us r := by rw [← hv7]; simp [am_up_eq, bt_s0]
    have a71 : v7 (33 + 1) 1 = bt_b0 us r := by rw [← hv7]; simp [am_up_eq, bt_b0]
    have a73 : v7 (33 + 1) 3 = bt_h0 us r := by rw [← hv7]; simp [am_up_eq, bt_h0]
    have a7 : ∀ j, j ≠ 0 → j ≠ 1 → j ≠ 3 → v7 (33 + 1) j = v6 (33 + 1) j := fun j h0 h1 h3 => by rw [← hv7]; simp [am_up_eq, h0, h1, h3]
    ((repeat' first | refine hP _ ?_ | fail); try dsimp only)
    refine m_move kb (by rw [p7 _ (by decide), u9]; exact bk_hat_bit r7) ?_
    rw [p7 (33 + 2) (by decide), u6, u7, u8, u9, B6 0 (by decide), B6 1 (by decide), B6 4 (by decide), b0, b1, b4]
    generalize hv8 : am_up (am_up (am_up v7 (33 + 2) 0 _) (33 + 2) 1 _) (33 + 2) 3 _ = v8
    have p8 : ∀ k, k ≠ 33 + 2 → v8 k = v7 k := fun k hk => by rw [← hv8, am_up_ne _ _ _ hk, am_up_ne _ _ _ hk, am_up_ne _ _ _ hk]
    have b80 : v8 (33 + 2) 0 = bt_s1 us r := by rw [← hv8]; simp [am_up_eq, bt_s1]
    have b81 : v8 (33 + 2) 1 = bt_b1 us r := by rw [← hv8]; simp [am_up_eq, bt_b1]
    have b83 : v8 (33 + 2) 3 = bt_h1 us r := by rw [← hv8]; simp [am_up_eq, bt_h1]
    have b8 : ∀ j, j ≠ 0 → j ≠ 1 → j ≠ 3 → v8 (33 + 2) j = v6 (33 + 2) j := fun j h0 h1 h3 => by rw [← hv8]; simp [am_up_eq, h0, h1, h3, p7]
    have A8 : v8 (33 + 1) = v7 (33 + 1) := p8 _ (by decide)
    -- both take offence
    ((repeat' first | refine hP _ ?_ | fail); try dsimp only)
    refine m_takeOff pab (by rw [A8, a73]; exact bk_hat_bit r6) (by rw [b83]; exact bk_hat_bit r7) ?_
    rw [A8, a70, a71, a73, b80, b81, b83, a7 2 (by decide) (by decide) (by decide), z6 2 (by decide), a2]
    generalize hv9 : am_up v8 (33 + 1) 2 _ = v9
    have p9 : ∀ k, k ≠ 33 + 1 → v9 k = v8 k := fun k hk => by rw [← hv9, am_up_ne _ _ _ hk]
    have a92 : v9 (33 + 1) 2 = bt us mS mD r 4 := by rw [← hv9]; simp [am_up_eq, bt]
    have a9 : ∀ j, j ≠ 2 → v9 (33 + 1) j = v7 (33 + 1) j := fun j hj => by rw [← hv9]; simp [am_up_eq, hj, A8]
    ((repeat' first | refine hP _ ?_ | fail); try dsimp only)
    refine m_takeOff pba (by rw [p9 _ (by decide), b83]; exact bk_hat_bit r7) (by rw [a9 3 (by decide), a73]; exact bk_hat_bit r6) ?_
    rw [p9 (33 + 2) (by decide), a9 0 (by decide), a9 1 (by decide), a9 3 (by decide), a70, a71, a73, b80, b81, b83, b8 2 (by decide) (by decide) (by decide), B6 2 (by decide), b2]
    generalize hvA : am_up v9 (33 + 2) 2 _ = vA
    have pA : ∀ k, k ≠ 33 + 2 → vA k = v9 k := fun k hk => by rw [← hvA, am_up_ne _ _ _ hk]
    have bA2 : vA (33 + 2) 2 = bt us mS mD r 5 := by rw [← hvA]; simp [am_up_eq, bt]
    have bA : ∀ j, j ≠ 2 → vA (33 + 2) j = v8 (33 + 2) j := fun j hj => by rw [← hvA]; simp [am_up_eq, hj, p9]
    have eA : vA (33 + 1) 10 = b2i (lwH (bt_F0 r) 120 us) := by rw [pA _ (by decide), a9 10 (by decide), a7 10 (by decide) (by decide) (by decide), w10]
    have eB : vA (33 + 2) 10 = b2i (lwH (bt_F1 r) 120 us) := by rw [bA 10 (by decide), b8 10 (by decide) (by decide) (by decide), u10]
    -- both may leave
    ((repeat' first | refine hP _ ?_ | fail); try dsimp only)
    rw [eA]
    refine ⟨b2i_bit _, ?_⟩
    ((repeat' first | refine hP _ ?_ | fail); try dsimp only)
    rw [am_up_ne _ _ _ (show (33 + 2 : Nat) ≠ 33 + 1 by decide), eB]
    refine ⟨b2i_bit _, ?_⟩
    ((repeat' first | refine hP _ ?_ | fail); try dsimp only)
    have ec : am_up (am_up vA (33 + 1) 5 (b2i (lwH (bt_F0 r) 120 us))) (33 + 2) 5 (b2i (lwH (bt_F1 r) 120 us)) 33 2 = r 12 := by
      rw [am_up_ne _ _ _ (by decide), am_up_ne _ _ _ (by decide), pA _ (by decide), p9 _ (by decide), p8 _ (by decide), p7 _ (by decide), y6]
    rw [ec]
    refine ⟨Or.inr rfl, h1 _ (fun k k1 k2 k3 k4 k5 => ?_) ⟨⟨?_, ?_, ?_, ?_, ?_, ?_⟩, ⟨?_, ?_, ?_, ?_, ?_, ?_⟩, ?_, ?_⟩⟩
    · rw [am_up_ne _ _ _ k1, am_up_ne _ _ _ k3, am_up_ne _ _ _ k2, pA k k3, p9 k k2, p8 k k3, p7 k k2, g6 k k1 k2 k3 k4 k5]
    · simp [am_up_eq, bt, pA, a9, a70]
    · simp [am_up_eq, bt, bA, b80]
    · simp [am_up_eq, bt, pA, a9, a71]
    · simp [am_up_eq, bt, bA, b81]
    · simp [am_up_eq, pA, a92]
    · simp [am_up_eq, bA2]
    · simp [am_up_eq, bt, pA, a9, a73]
    · simp [am_up_eq, bt, bA, b83]
    · simp [am_up_eq, bt, pA, a9, a7, z6, a4]
    · simp [am_up_eq, bt, bA, b8, B6, b4]
    · simp [am_up_eq, bt]
    · simp [am_up_eq, bt]
    · simp [am_up_eq, bt]
    · simp [am_up_eq, bt, pA, p9, p8, p7, x6]
set_option maxRecDepth 100000 in
set_option maxHeartbeats 4000000 in
theorem m_goesBy {c a b : Nat} (hm : mgP c a b) {r : Nat → Int32} (ht : mt v c a b r) (hr : rg r) (hl : lw_is v us z) (h0 : ¬ goB r → Q (some (.int 0)) (am_sh, v, w)) (h1 : goB r → ∀ v' : am_V, (∀ k, k ≠ c → k ≠ a → k ≠ b → k ≠ 8 → k ≠ 9 → v' k = v k) → mt v' c a b (bt us (v 0 12) (v 0 13) r) → Q (some (.int 1)) (am_sh, v', w)) : am_run K I am_m (d + 6) 133 [.ref 0, .ref c] (am_sh, v, w) 0 0 Q := by
  rcases hm with ⟨rfl, rfl, rfl⟩ | ⟨rfl, rfl, rfl⟩
  · refine en_X11_goesBy rfl ?_
    intro P hP
    ((repeat' first | refine hP _ ?_ | fail); try dsimp only)
    refine m_breathe_30 ht hr hl (fun g => ?_) (fun g v' f m => ?_)
    · ((repeat' first | refine hP _ ?_ | fail); try dsimp only)
      exact ⟨Or.inl rfl, h0 g⟩
    · ((repeat' first | refine hP _ ?_ | fail); try dsimp only)
      exact ⟨Or.inr rfl, h1 g v' f m⟩
  · refine en_X11_goesBy rfl ?_
    intro P hP
    ((repeat' first | refine hP _ ?_ | fail); try dsimp only)
    refine m_breathe_33 ht hr hl (fun g => ?_) (fun g v' f m => ?_)
    · ((repeat' first | refine hP _ ?_ | fail); try dsimp only)
      exact ⟨Or.inl rfl, h0 g⟩
    · ((repeat' first | refine hP _ ?_ | fail); try dsimp only)
      exact ⟨Or.inr rfl, h1 g v' f m⟩
end M65
