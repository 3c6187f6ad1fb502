/-! ===== pairs: tolerance, seed, king, keep, undo ===== -/
theorem am_no {a b c : Int32} (h : a < b ∨ c < a) (h1 : b ≤ a) (h2 : a ≤ c) : False := by
  rcases h with h | h
  · exact absurd h1 (Int32.not_le.mpr h)
  · exact absurd h2 (Int32.not_le.mpr h)
section M23
variable {K : am_K} {I : am_I} {d : Nat} {v : am_V} {w : am_X} {sh : List am_S} {Q : Option Value → am_H → Prop}
theorem m_X12_in1 {a b c : Int32} (e1 : b ≤ a) (e2 : a ≤ c) (h : Q (some (.int 1)) (sh, v, w)) : am_run K I am_m (d + 1) 138 [.int a, .int b, .int c] (sh, v, w) 0 0 Q := m_X12_in (fun _ _ => h) (fun e => (am_no e e1 e2).elim)
theorem m_X12_in0 {a b c : Int32} (e : a < b ∨ c < a) (h : Q (some (.int 0)) (sh, v, w)) : am_run K I am_m (d + 1) 138 [.int a, .int b, .int c] (sh, v, w) 0 0 Q := m_X12_in (fun e1 e2 => (am_no e e1 e2).elim) (fun _ => h)
end M23
set_option maxRecDepth 100000 in
set_option maxHeartbeats 4000000 in
theorem pr_tolerance {L : Nat} {xs : Nat → Int32} (a b : Int32) : am_pair L xs 104 148 [.int a, .int b] := by
  intro d v w Q hI h
  refine en_X11_tolerance rfl ?_
  intro P hP
  ((repeat' first | refine hP _ ?_ | fail); try dsimp only)
  refine m_X11_outside (fun c => ?_) (fun c1 c2 => ?_)
  · ((repeat' first | refine hP _ ?_ | refine ⟨fun c1 => absurd c1 (by decide), fun _ => ?_⟩ | refine ⟨fun _ => ?_, fun c1 => absurd c1 (by decide)⟩ | refine ⟨am_vin rfl, ?_⟩ | refine ⟨fun c1 => ?_, fun c1 => ?_⟩ | refine ⟨Or.inr rfl, ?_⟩ | refine ⟨Or.inl rfl, ?_⟩ | fail); all_goals (try dsimp only at *))
    refine h 0 v w (fun Q2 h2 => ?_)
    refine en_X12_tolerance rfl ?_
    intro P2 hP2
    ((repeat' first | refine hP2 _ ?_ | fail); try dsimp only)
    refine m_X12_in0 c ?_
    ((repeat' first | refine hP2 _ ?_ | refine ⟨fun c1 => absurd c1 (by decide), fun _ => ?_⟩ | refine ⟨fun _ => ?_, fun c1 => absurd c1 (by decide)⟩ | refine ⟨am_vin rfl, ?_⟩ | refine ⟨fun c1 => ?_, fun c1 => ?_⟩ | refine ⟨Or.inr rfl, ?_⟩ | refine ⟨Or.inl rfl, ?_⟩ | fail); all_goals (try dsimp only at *))
    exact h2 v w hI
  · ((repeat' first | refine hP _ ?_ | fail); try dsimp only)
    refine ⟨fun e => absurd rfl e, fun _ => ?_⟩
    ((repeat' first | refine hP _ ?_ | fail); try dsimp only)
    refine m_X11_outside (fun e => ?_) (fun e1 e2 => ?_)
    · ((repeat' first | refine hP _ ?_ | refine ⟨fun c1 => absurd c1 (by decide), fun _ => ?_⟩ | refine ⟨fun _ => ?_, fun c1 => absurd c1 (by decide)⟩ | refine ⟨am_vin rfl, ?_⟩ | refine ⟨fun c1 => ?_, fun c1 => ?_⟩ | refine ⟨Or.inr rfl, ?_⟩ | refine ⟨Or.inl rfl, ?_⟩ | fail); all_goals (try dsimp only at *))
      refine h 0 v w (fun Q2 h2 => ?_)
      refine en_X12_tolerance rfl ?_
      intro P2 hP2
      ((repeat' first | refine hP2 _ ?_ | fail); try dsimp only)
      refine m_X12_in1 c1 c2 ?_
      ((repeat' first | refine hP2 _ ?_ | fail); try dsimp only)
      refine ⟨fun e => absurd e (by decide), fun _ => ?_⟩
      ((repeat' first | refine hP2 _ ?_ | fail); try dsimp only)
      refine m_X12_in0 e ?_
      ((repeat' first | refine hP2 _ ?_ | refine ⟨fun c1 => absurd c1 (by decide), fun _ => ?_⟩ | refine ⟨fun _ => ?_, fun c1 => absurd c1 (by decide)⟩ | refine ⟨am_vin rfl, ?_⟩ | refine ⟨fun c1 => ?_, fun c1 => ?_⟩ | refine ⟨Or.inr rfl, ?_⟩ | refine ⟨Or.inl rfl, ?_⟩ | fail); all_goals (try dsimp only at *))
      exact h2 v w hI
    · ((repeat' first | refine hP _ ?_ | refine ⟨fun c1 => absurd c1 (by decide), fun _ => ?_⟩ | refine ⟨fun _ => ?_, fun c1 => absurd c1 (by decide)⟩ | refine ⟨am_vin rfl, ?_⟩ | refine ⟨fun c1 => ?_, fun c1 => ?_⟩ | refine ⟨Or.inr rfl, ?_⟩ | refine ⟨Or.inl rfl, ?_⟩ | fail); all_goals (try dsimp only at *))
      refine h 1 _ w (fun Q2 h2 => ?_)
      refine en_X12_tolerance rfl ?_
      intro P2 hP2
      ((repeat' first | refine hP2 _ ?_ | fail); try dsimp only)
      refine m_X12_in1 c1 c2 ?_
      ((repeat' first | refine hP2 _ ?_ | fail); try dsimp only)
      refine ⟨fun e => absurd e (by decide), fun _ => ?_⟩
      ((repeat' first | refine hP2 _ ?_ | fail); try dsimp only)
      refine m_X12_in1 e1 e2 ?_
      ((repeat' first | refine hP2 _ ?_ | refine ⟨fun c1 => absurd c1 (by decide), fun _ => ?_⟩ | refine ⟨fun _ => ?_, fun c1 => absurd c1 (by decide)⟩ | refine ⟨am_vin rfl, ?_⟩ | refine ⟨fun c1 => ?_, fun c1 => ?_⟩ | refine ⟨Or.inr rfl, ?_⟩ | refine ⟨Or.inl rfl, ?_⟩ | fail); all_goals (try dsimp only at *))
      refine h2 _ w ?_
      obtain ⟨hm, hk, hmi, ht, hl, hr⟩ := hI
      refine ⟨?_, ?_, ?_, ?_, ?_, ?_⟩
      · simpa [iv_meet, iv_rng, am_up_ne] using hm
      · simpa [iv_meet, iv_rng, am_up_eq] using hk
      · simpa [iv_misc, iv_in, am_up_eq, c1, c2, e1, e2] using ⟨hmi.1, hmi.2.1⟩
      · simpa [iv_tape, am_up_eq, am_up_ne] using ht
      · simpa [iv_law, am_up_eq, am_up_ne] using hl
      · simpa [iv_tre, am_up_eq, am_up_ne] using hr
set_option maxRecDepth 100000 in
set_option maxHeartbeats 4000000 in
theorem pr_seed {L : Nat} {xs : Nat → Int32} (a : Int32) : am_pair L xs 128 230 [.int a] := by
  intro d v w Q hI h
  refine en_X11_seed rfl ?_
  intro P hP
  ((repeat' first | refine hP _ ?_ | fail); try dsimp only)
  refine m_X11_outside (fun c => ?_) (fun c1 c2 => ?_)
  · ((repeat' first | refine hP _ ?_ | refine ⟨fun c1 => absurd c1 (by decide), fun _ => ?_⟩ | refine ⟨fun _ => ?_, fun c1 => absurd c1 (by decide)⟩ | refine ⟨am_vin rfl, ?_⟩ | refine ⟨fun c1 => ?_, fun c1 => ?_⟩ | refine ⟨Or.inr rfl, ?_⟩ | refine ⟨Or.inl rfl, ?_⟩ | fail); all_goals (try dsimp only at *))
    refine h 0 v w (fun Q2 h2 => ?_)
    refine en_X12_seed rfl ?_
    intro P2 hP2
    ((repeat' first | refine hP2 _ ?_ | fail); try dsimp only)
    refine m_X12_in0 c ?_
    ((repeat' first | refine hP2 _ ?_ | refine ⟨fun c1 => absurd c1 (by decide), fun _ => ?_⟩ | refine ⟨fun _ => ?_, fun c1 => absurd c1 (by decide)⟩ | refine ⟨am_vin rfl, ?_⟩ | refine ⟨fun c1 => ?_, fun c1 => ?_⟩ | refine ⟨Or.inr rfl, ?_⟩ | refine ⟨Or.inl rfl, ?_⟩ | fail); all_goals (try dsimp only at *))
    exact h2 v w hI
  · ((repeat' first | refine hP _ ?_ | refine ⟨fun c1 => absurd c1 (by decide), fun _ => ?_⟩ | refine ⟨fun _ => ?_, fun c1 => absurd c1 (by decide)⟩ | refine ⟨am_vin rfl, ?_⟩ | refine ⟨fun c1 => ?_, fun c1 => ?_⟩ | refine ⟨Or.inr rfl, ?_⟩ | refine ⟨Or.inl rfl, ?_⟩ | fail); all_goals (try dsimp only at *))
    refine h 1 _ w (fun Q2 h2 => ?_)
    refine en_X12_seed rfl ?_
    intro P2 hP2
    ((repeat' first | refine hP2 _ ?_ | fail); try dsimp only)
    refine m_X12_in1 c1 c2 ?_
    ((repeat' first | refine hP2 _ ?_ | refine ⟨fun c1 => absurd c1 (by decide), fun _ => ?_⟩ | refine ⟨fun _ => ?_, fun c1 => absurd c1 (by decide)⟩ | refine ⟨am_vin rfl, ?_⟩ | refine ⟨fun c1 => ?_, fun c1 => ?_⟩ | refine ⟨Or.inr rfl, ?_⟩ | refine ⟨Or.inl rfl, ?_⟩ | fail); all_goals (try dsimp only at *))
    refine h2 _ w ?_
    obtain ⟨hm, hk, hmi, ht, hl, hr⟩ := hI
    refine ⟨?_, ?_, ?_, ?_, ?_, ?_⟩
    · obtain ⟨⟨m1, m2, m3, m4⟩, r1, r2, r3, r4⟩ := hm
      have e : Int32.toNatClampNeg 13 = 13 := rfl
      simpa [iv_meet, iv_rng, iv_in, iv_bit, am_up_eq, am_up_ne, e, c1, c2] using ⟨⟨m1, m2, m3⟩, r1, r2, r3⟩
    · simpa [iv_meet, iv_rng, iv_in, iv_bit, am_up_eq, am_up_ne] using hk
    · simpa [iv_misc, iv_in, iv_bit, am_up_eq, am_up_ne] using hmi
    · simpa [iv_tape, am_up_eq, am_up_ne] using ht
    · simpa [iv_law, am_up_eq, am_up_ne] using hl
    · simpa [iv_tre, am_up_eq, am_up_ne] using hr
section M23b
variable {K : am_K} {I : am_I} {d : Nat} {v : am_V} {w : am_X} {Q : Option Value → am_H → Prop}
set_option maxRecDepth 100000 in
set_option maxHeartbeats 4000000 in
theorem m_X5_kingOf {m a b : Nat} (hm : (m = 30 ∧ a = 31 ∧ b = 32) ∨ (m = 33 ∧ a = 34 ∧ b = 35)) {k : Int32} (h1 : k = 1 → Q (some (.ref b)) (am_sh, v, w)) (h0 : ¬ k = 1 → Q (some (.ref a)) (am_sh, v, w)) : am_run K I am_m (d + 1) 62 [.ref m, .int k] (am_sh, v, w) 0 0 Q := by
  rcases hm with ⟨rfl, rfl, rfl⟩ | ⟨rfl, rfl, rfl⟩
  · refine en_X5_kingOf rfl ?_
    intro P hP
    ((repeat' first | refine hP _ ?_ | refine ⟨fun c1 => absurd c1 (by decide), fun _ => ?_⟩ | refine ⟨fun _ => ?_, fun c1 => absurd c1 (by decide)⟩ | refine ⟨am_vin rfl, ?_⟩ | refine ⟨fun c1 => ?_, fun c1 => ?_⟩ | refine ⟨Or.inr rfl, ?_⟩ | refine ⟨Or.inl rfl, ?_⟩ | fail); all_goals (try dsimp only at *))
    · exact h0 (by assumption)
    · exact h1 (by assumption)
  · refine en_X5_kingOf rfl ?_
    intro P hP
    ((repeat' first | refine hP _ ?_ | refine ⟨fun c1 => absurd c1 (by decide), fun _ => ?_⟩ | refine ⟨fun _ => ?_, fun c1 => absurd c1 (by decide)⟩ | refine ⟨am_vin rfl, ?_⟩ | refine ⟨fun c1 => ?_, fun c1 => ?_⟩ | refine ⟨Or.inr rfl, ?_⟩ | refine ⟨Or.inl rfl, ?_⟩ | fail); all_goals (try dsimp only at *))
    · exact h0 (by assumption)
    · exact h1 (by assumption)
set_option maxRecDepth 100000 in
set_option maxHeartbeats 4000000 in
theorem m_X1_begin {k : Nat} (hk : k = 31 ∨ k = 32) {s l : Int32} (hl : iv_bit l) (h : Q none (am_sh, am_up (am_up (am_up (am_up (am_up (am_up v k 0 s) k 4 l) k 1 0) k 2 0) k 3 1) k 5 0, w)) : am_run K I am_m (d + 1) 17 [.ref k, .int s, .int l] (am_sh, v, w) 0 0 Q := by
  rcases hk with rfl | rfl
  · refine en_X1_begin rfl ?_
    intro P hP
    ((repeat' first | refine hP _ ?_ | fail); try dsimp only)
    refine ⟨hl, ?_⟩
    ((repeat' first | refine hP _ ?_ | refine ⟨fun c1 => absurd c1 (by decide), fun _ => ?_⟩ | refine ⟨fun _ => ?_, fun c1 => absurd c1 (by decide)⟩ | refine ⟨am_vin rfl, ?_⟩ | refine ⟨fun c1 => ?_, fun c1 => ?_⟩ | refine ⟨Or.inr rfl, ?_⟩ | refine ⟨Or.inl rfl, ?_⟩ | fail); all_goals (try dsimp only at *))
    exact h
  · refine en_X1_begin rfl ?_
    intro P hP
    ((repeat' first | refine hP _ ?_ | fail); try dsimp only)
    refine ⟨hl, ?_⟩
    ((repeat' first | refine hP _ ?_ | refine ⟨fun c1 => absurd c1 (by decide), fun _ => ?_⟩ | refine ⟨fun _ => ?_, fun c1 => absurd c1 (by decide)⟩ | refine ⟨am_vin rfl, ?_⟩ | refine ⟨fun c1 => ?_, fun c1 => ?_⟩ | refine ⟨Or.inr rfl, ?_⟩ | refine ⟨Or.inl rfl, ?_⟩ | fail); all_goals (try dsimp only at *))
    exact h
end M23b
set_option maxRecDepth 100000 in
set_option maxHeartbeats 4000000 in
theorem pr_king {L : Nat} {xs : Nat → Int32} (a b c : Int32) (hc : iv_bit c) : am_pair L xs 103 147 [.int a, .int b, .int c] := by
  intro d v w Q hI h
  refine en_X11_king rfl ?_
  intro P hP
  ((repeat' first | refine hP _ ?_ | fail); try dsimp only)
  refine m_X11_outside (fun e => ?_) (fun c1 c2 => ?_)
  · ((repeat' first | refine hP _ ?_ | refine ⟨fun c1 => absurd c1 (by decide), fun _ => ?_⟩ | refine ⟨fun _ => ?_, fun c1 => absurd c1 (by decide)⟩ | refine ⟨am_vin rfl, ?_⟩ | refine ⟨fun c1 => ?_, fun c1 => ?_⟩ | refine ⟨Or.inr rfl, ?_⟩ | refine ⟨Or.inl rfl, ?_⟩ | fail); all_goals (try dsimp only at *))
    refine h 0 v w (fun Q2 h2 => ?_)
    refine en_X12_king rfl ?_
    intro P2 hP2
    ((repeat' first | refine hP2 _ ?_ | fail); try dsimp only)
    refine m_X12_in0 e ?_
    ((repeat' first | refine hP2 _ ?_ | refine ⟨fun c1 => absurd c1 (by decide), fun _ => ?_⟩ | refine ⟨fun _ => ?_, fun c1 => absurd c1 (by decide)⟩ | refine ⟨am_vin rfl, ?_⟩ | refine ⟨fun c1 => ?_, fun c1 => ?_⟩ | refine ⟨Or.inr rfl, ?_⟩ | refine ⟨Or.inl rfl, ?_⟩ | fail); all_goals (try dsimp only at *))
    exact h2 v w hI
  · ((repeat' first | refine hP _ ?_ | fail); try dsimp only)
    refine ⟨fun e => absurd rfl e, fun _ => ?_⟩
    ((repeat' first | refine hP _ ?_ | fail); try dsimp only)
    refine m_X11_outside (fun e => ?_) (fun e1 e2 => ?_)
    · ((repeat' first | refine hP _ ?_ | refine ⟨fun c1 => absurd c1 (by decide), fun _ => ?_⟩ | refine ⟨fun _ => ?_, fun c1 => absurd c1 (by decide)⟩ | refine ⟨am_vin rfl, ?_⟩ | refine ⟨fun c1 => ?_, fun c1 => ?_⟩ | refine ⟨Or.inr rfl, ?_⟩ | refine ⟨Or.inl rfl, ?_⟩ | fail); all_goals (try dsimp only at *))
      refine h 0 v w (fun Q2 h2 => ?_)
      refine en_X12_king rfl ?_
      intro P2 hP2
      ((repeat' first | refine hP2 _ ?_ | fail); try dsimp only)
      refine m_X12_in1 c1 c2 ?_
      ((repeat' first | refine hP2 _ ?_ | fail); try dsimp only)
      refine ⟨fun e => absurd e (by decide), fun _ => ?_⟩
      ((repeat' first | refine hP2 _ ?_ | fail); try dsimp only)
      refine m_X12_in0 e ?_
      ((repeat' first | refine hP2 _ ?_ | refine ⟨fun c1 => absurd c1 (by decide), fun _ => ?_⟩ | refine ⟨fun _ => ?_, fun c1 => absurd c1 (by decide)⟩ | refine ⟨am_vin rfl, ?_⟩ | refine ⟨fun c1 => ?_, fun c1 => ?_⟩ | refine ⟨Or.inr rfl, ?_⟩ | refine ⟨Or.inl rfl, ?_⟩ | fail); all_goals (try dsimp only at *))
      exact h2 v w hI
    · ((repeat' first | refine hP _ ?_ | refine ⟨fun c1 => absurd c1 (by decide), fun _ => ?_⟩ | refine ⟨fun _ => ?_, fun c1 => absurd c1 (by decide)⟩ | refine ⟨am_vin rfl, ?_⟩ | refine ⟨fun c1 => ?_, fun c1 => ?_⟩ | refine ⟨Or.inr rfl, ?_⟩ | refine ⟨Or.inl rfl, ?_⟩ | fail); all_goals (try dsimp only at *))
      have hr2 : ∀ {Q2 : Option Value → am_H → Prop} {v1 : am_V}, (∀ P2 : am_C → Prop, (∀ q, am_step (am_kc L xs) am_idx (am_run (am_kc L xs) am_idx am_m (d + 49)) cd_X12_king 0 0 Q2 P2 q → P2 q) → P2 (cd_X12_king.drop 12, am_ent 4 [Value.ref 62, Value.int a, Value.int b, Value.int c], [], (am_sh, v1, w), 0, 0)) → am_run (am_kc L xs) am_idx am_m (d + 50) 147 [.ref 62, .int a, .int b, .int c] (am_sh, v1, w) 0 0 Q2 := by
        intro Q2 v1 hh
        refine en_X12_king rfl ?_
        intro P2 hP2
        ((repeat' first | refine hP2 _ ?_ | fail); try dsimp only)
        refine m_X12_in1 c1 c2 ?_
        ((repeat' first | refine hP2 _ ?_ | fail); try dsimp only)
        refine ⟨fun e => absurd e (by decide), fun _ => ?_⟩
        ((repeat' first | refine hP2 _ ?_ | fail); try dsimp only)
        refine m_X12_in1 e1 e2 ?_
        ((repeat' first | refine hP2 _ ?_ | fail); try dsimp only)
        refine ⟨fun _ => ?_, fun e => absurd e (by decide)⟩
        exact hh P2 hP2
      rcases am_01 c1 c2 with rfl | rfl
      · refine m_X5_kingOf (Or.inl ⟨rfl, rfl, rfl⟩) (fun e => absurd e (by decide)) (fun _ => ?_)
        ((repeat' first | refine hP _ ?_ | fail); try dsimp only)
        refine m_X1_begin (Or.inl rfl) hc ?_
        ((repeat' first | refine hP _ ?_ | refine ⟨fun c1 => absurd c1 (by decide), fun _ => ?_⟩ | refine ⟨fun _ => ?_, fun c1 => absurd c1 (by decide)⟩ | refine ⟨am_vin rfl, ?_⟩ | refine ⟨fun c1 => ?_, fun c1 => ?_⟩ | refine ⟨Or.inr rfl, ?_⟩ | refine ⟨Or.inl rfl, ?_⟩ | fail); all_goals (try dsimp only at *))
        refine h 1 _ w (fun Q2 h2 => ?_)
        refine hr2 (fun P2 hP2 => ?_)
        rcases hc with rfl | rfl
        · ((repeat' first | refine hP2 _ ?_ | refine ⟨fun c1 => absurd c1 (by decide), fun _ => ?_⟩ | refine ⟨fun _ => ?_, fun c1 => absurd c1 (by decide)⟩ | refine ⟨am_vin rfl, ?_⟩ | refine ⟨fun c1 => ?_, fun c1 => ?_⟩ | refine ⟨Or.inr rfl, ?_⟩ | refine ⟨Or.inl rfl, ?_⟩ | fail); all_goals (try dsimp only at *))
          refine h2 _ w ?_
          obtain ⟨⟨⟨m1, m2, m3, m4⟩, r1, r2, r3, r4⟩, hk, hmi, ht, hl, hr⟩ := hI
          refine ⟨?_, ?_, ?_, ?_, ?_, ?_⟩
          · simp [iv_meet, iv_rng, iv_in, iv_bit, am_up_eq, am_up_ne, tn_0_0, tn_0_1, tn_2_0, tn_2_1, tn_4_0, tn_4_1, tn_6_0, tn_6_1, tn_8_0, tn_8_1, tn_10_0, tn_10_1, tn_0, tn_1, tn_2, tn_3, tn_4, tn_5, tn_6, tn_7, tn_8, tn_9, tn_10, tn_11, tn_12, tn_13, tn_14, tn_15, tn_16, tn_17, tn_18, tn_19, tn_20, tn_21, tn_22, tn_23] at m1 m2 m3 m4 r1 r2 r3 r4 ⊢
            simp_all
          · simpa [iv_meet, iv_rng, iv_in, iv_bit, am_up_eq, am_up_ne] using hk
          · simpa [iv_misc, iv_in, iv_bit, am_up_eq, am_up_ne] using hmi
          · simpa [iv_tape, am_up_eq, am_up_ne] using ht
          · simpa [iv_law, am_up_eq, am_up_ne] using hl
          · simpa [iv_tre, am_up_eq, am_up_ne] using hr
        · ((repeat' first | refine hP2 _ ?_ | refine ⟨fun c1 => absurd c1 (by decide), fun _ => ?_⟩ | refine ⟨fun _ => ?_, fun c1 => absurd c1 (by decide)⟩ | refine ⟨am_vin rfl, ?_⟩ | refine ⟨fun c1 => ?_, fun c1 => ?_⟩ | refine ⟨Or.inr rfl, ?_⟩ | refine ⟨Or.inl rfl, ?_⟩ | fail); all_goals (try dsimp only at *))
          refine h2 _ w ?_
          obtain ⟨⟨⟨m1, m2, m3, m4⟩, r1, r2, r3, r4⟩, hk, hmi, ht, hl, hr⟩ := hI
          refine ⟨?_, ?_, ?_, ?_, ?_, ?_⟩
          · simp [iv_meet, iv_rng, iv_in, iv_bit, am_up_eq, am_up_ne, tn_0_0, tn_0_1, tn_2_0, tn_2_1, tn_4_0, tn_4_1, tn_6_0, tn_6_1, tn_8_0, tn_8_1, tn_10_0, tn_10_1, tn_0, tn_1, tn_2, tn_3, tn_4, tn_5, tn_6, tn_7, tn_8, tn_9, tn_10, tn_11, tn_12, tn_13, tn_14, tn_15, tn_16, tn_17, tn_18, tn_19, tn_20, tn_21, tn_22, tn_23] at m1 m2 m3 m4 r1 r2 r3 r4 ⊢
            simp_all
          · simpa [iv_meet, iv_rng, iv_in, iv_bit, am_up_eq, am_up_ne] using hk
          · simpa [iv_misc, iv_in, iv_bit, am_up_eq, am_up_ne] using hmi
          · simpa [iv_tape, am_up_eq, am_up_ne] using ht
          · simpa [iv_law, am_up_eq, am_up_ne] using hl
          · simpa [iv_tre, am_up_eq, am_up_ne] using hr
      · refine m_X5_kingOf (Or.inl ⟨rfl, rfl, rfl⟩) (fun _ => ?_) (fun e => absurd rfl e)
        ((repeat' first | refine hP _ ?_ | fail); try dsimp only)
        refine m_X1_begin (Or.inr rfl) hc ?_
        ((repeat' first | refine hP _ ?_ | refine ⟨fun c1 => absurd c1 (by decide), fun _ => ?_⟩ | refine ⟨fun _ => ?_, fun c1 => absurd c1 (by decide)⟩ | refine ⟨am_vin rfl, ?_⟩ | refine ⟨fun c1 => ?_, fun c1 => ?_⟩ | refine ⟨Or.inr rfl, ?_⟩ | refine ⟨Or.inl rfl, ?_⟩ | fail); all_goals (try dsimp only at *))
        refine h 1 _ w (fun Q2 h2 => ?_)
        refine hr2 (fun P2 hP2 => ?_)
        rcases hc with rfl | rfl
        · ((repeat' first | refine hP2 _ ?_ | refine ⟨fun c1 => absurd c1 (by decide), fun _ => ?_⟩ | refine ⟨fun _ => ?_, fun c1 => absurd c1 (by decide)⟩ | refine ⟨am_vin rfl, ?_⟩ | refine ⟨fun c1 => ?_, fun c1 => ?_⟩ | refine ⟨Or.inr rfl, ?_⟩ | refine ⟨Or.inl rfl, ?_⟩ | fail); all_goals (try dsimp only at *))
          refine h2 _ w ?_
          obtain ⟨⟨⟨m1, m2, m3, m4⟩, r1, r2, r3, r4⟩, hk, hmi, ht, hl, hr⟩ := hI
          refine ⟨?_, ?_, ?_, ?_, ?_, ?_⟩
          · simp [iv_meet, iv_rng, iv_in, iv_bit, am_up_eq, am_up_ne, tn_0_0, tn_0_1, tn_2_0, tn_2_1, tn_4_0, tn_4_1, tn_6_0, tn_6_1, tn_8_0, tn_8_1, tn_10_0, tn_10_1, tn_0, tn_1, tn_2, tn_3, tn_4, tn_5, tn_6, tn_7, tn_8, tn_9, tn_10, tn_11, tn_12, tn_13, tn_14, tn_15, tn_16, tn_17, tn_18, tn_19, tn_20, tn_21, tn_22, tn_23] at m1 m2 m3 m4 r1 r2 r3 r4 ⊢
            simp_all
          · simpa [iv_meet, iv_rng, iv_in, iv_bit, am_up_eq, am_up_ne] using hk
          · simpa [iv_misc, iv_in, iv_bit, am_up_eq, am_up_ne] using hmi
          · simpa [iv_tape, am_up_eq, am_up_ne] using ht
          · simpa [iv_law, am_up_eq, am_up_ne] using hl
          · simpa [iv_tre, am_up_eq, am_up_ne] using hr
        · ((repeat' first | refine hP2 _ ?_ | refine ⟨fun c1 => absurd c1 (by decide), fun _ => ?_⟩ | refine ⟨fun _ => ?_, fun c1 => absurd c1 (by decide)⟩ | refine ⟨am_vin rfl, ?_⟩ | refine ⟨fun c1 => ?_, fun c1 => ?_⟩ | refine ⟨Or.inr rfl, ?_⟩ | refine ⟨Or.inl rfl, ?_⟩ | fail); all_goals (try dsimp only at *))
          refine h2 _ w ?_
          obtain ⟨⟨⟨m1, m2, m3, m4⟩, r1, r2, r3, r4⟩, hk, hmi, ht, hl, hr⟩ := hI
          refine ⟨?_, ?_, ?_, ?_, ?_, ?_⟩
          · simp [iv_meet, iv_rng, iv_in, iv_bit, am_up_eq, am_up_ne, tn_0_0, tn_0_1, tn_2_0, tn_2_1, tn_4_0, tn_4_1, tn_6_0, tn_6_1, tn_8_0, tn_8_1, tn_10_0, tn_10_1, tn_0, tn_1, tn_2, tn_3, tn_4, tn_5, tn_6, tn_7, tn_8, tn_9, tn_10, tn_11, tn_12, tn_13, tn_14, tn_15, tn_16, tn_17, tn_18, tn_19, tn_20, tn_21, tn_22, tn_23] at m1 m2 m3 m4 r1 r2 r3 r4 ⊢
            simp_all
          · simpa [iv_meet, iv_rng, iv_in, iv_bit, am_up_eq, am_up_ne] using hk
          · simpa [iv_misc, iv_in, iv_bit, am_up_eq, am_up_ne] using hmi
          · simpa [iv_tape, am_up_eq, am_up_ne] using ht
          · simpa [iv_law, am_up_eq, am_up_ne] using hl
          · simpa [iv_tre, am_up_eq, am_up_ne] using hr
