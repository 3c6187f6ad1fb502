/-! ===== pairs: keep, undo, kingIs ===== -/
theorem am_qr {Q : Option Value → am_H → Prop} {r r' : Int32} {sh : List am_S} {v v' : am_V} {w : am_X} (e : r = r') (e2 : v = v') (h : Q (some (.int r')) (sh, v', w)) : Q (some (.int r)) (sh, v, w) := e ▸ e2 ▸ h
theorem iv_bits {v : am_V} {c a b r : Nat} (h : iv_meet v c a b r) (hr : iv_rng v r) : (iv_bit (v a 3) ∧ iv_bit (v a 4) ∧ iv_bit (v a 5)) ∧ (iv_bit (v b 3) ∧ iv_bit (v b 4) ∧ iv_bit (v b 5)) := by
  obtain ⟨-, ⟨h1, h2, h3, h4, h5, h6⟩, -⟩ := h
  obtain ⟨-, ⟨g1, g2, g3, g4, g5, g6⟩, -⟩ := hr
  rw [h1, h2, h3, h4, h5, h6]
  exact ⟨⟨g1, g3, g5⟩, g2, g4, g6⟩
set_option maxRecDepth 100000 in
set_option maxHeartbeats 4000000 in
theorem pr_keep {L : Nat} {xs : Nat → Int32} : am_pair L xs 129 231 [] := by
  intro d v w Q hI h
  obtain ⟨⟨hm, hmr⟩, hk, hmi, ht, hl, hr⟩ := hI
  obtain ⟨ba, bb⟩ := iv_bits hm hmr
  refine en_X11_keep rfl ?_
  intro P hP
  ((repeat' first | refine hP _ ?_ | fail); try dsimp only)
  refine m_X5_become (Or.inl ⟨rfl, rfl, rfl, rfl, rfl, rfl⟩) ba bb ?_
  ((repeat' first | refine hP _ ?_ | refine ⟨fun c1 => absurd c1 (by decide), fun _ => ?_⟩ | refine ⟨fun _ => ?_, fun c1 => absurd c1 (by decide)⟩ | refine ⟨am_vin rfl, ?_⟩ | refine ⟨fun c1 => ?_, fun c1 => ?_⟩ | refine ⟨Or.inr rfl, ?_⟩ | refine ⟨Or.inl rfl, ?_⟩ | fail); all_goals (try dsimp only at *))
  refine am_qr (r' := v 30 2) (by simp [f_meet, f_king, am_up_eq]) rfl (h _ _ w (fun Q2 h2 => ?_))
  refine en_X12_keep rfl ?_
  intro P2 hP2
  ((repeat' first | refine hP2 _ ?_ | fail); try dsimp only)
  refine ⟨Or.inr rfl, ?_⟩
  ((repeat' first | refine hP2 _ ?_ | fail); try dsimp only)
  refine m_X12_copies (by decide) ?_
  ((repeat' first | refine hP2 _ ?_ | refine ⟨fun c1 => absurd c1 (by decide), fun _ => ?_⟩ | refine ⟨fun _ => ?_, fun c1 => absurd c1 (by decide)⟩ | refine ⟨am_vin rfl, ?_⟩ | refine ⟨fun c1 => ?_, fun c1 => ?_⟩ | refine ⟨Or.inr rfl, ?_⟩ | refine ⟨Or.inl rfl, ?_⟩ | fail); all_goals (try dsimp only at *))
  refine am_qr (r' := v 30 2) (by simp [f_meet, f_king, f_row, am_up_eq, tn_0_0, tn_0_1, tn_2_0, tn_2_1, tn_4_0, tn_4_1, tn_6_0, tn_6_1, tn_8_0, tn_8_1, tn_10_0, tn_10_1, tn_0, tn_1, tn_2, tn_3, tn_4, tn_5, tn_6, tn_7, tn_8, tn_9, tn_10, tn_11, tn_12, tn_13, tn_14, tn_15, tn_16, tn_17, tn_18, tn_19, tn_20, tn_21, tn_22, tn_23]; exact hm.2.2.1.symm) rfl (h2 _ w ?_)
  refine ⟨⟨?_, ?_⟩, fun _ => ⟨?_, ?_⟩, ?_, ?_, ?_, ?_⟩
  · simpa [iv_meet, f_meet, f_king, f_row, am_up_eq] using hm
  · simpa [iv_rng, f_meet, f_king, f_row, am_up_eq] using hmr
  · simpa [iv_meet, f_meet, f_king, f_row, am_up_eq] using hm
  · simpa [iv_rng, f_meet, f_king, f_row, am_up_eq] using hmr
  · simpa [iv_misc, iv_bit, f_meet, f_king, f_row, am_up_eq] using hmi.2.2
  · simpa (config := { unfoldPartialApp := true }) [iv_tape, f_meet, f_king, f_row, am_up_eq, am_up_ne] using ht
  · simpa (config := { unfoldPartialApp := true }) [iv_law, f_meet, f_king, f_row, am_up_eq, am_up_ne] using hl
  · simpa (config := { unfoldPartialApp := true }) [iv_tre, f_meet, f_king, f_row, am_up_eq, am_up_ne] using hr
set_option maxRecDepth 100000 in
set_option maxHeartbeats 4000000 in
theorem pr_undo {L : Nat} {xs : Nat → Int32} : am_pair L xs 130 232 [] := by
  intro d v w Q hI h
  refine en_X11_undo rfl ?_
  intro P hP
  ((repeat' first | refine hP _ ?_ | fail); try dsimp only)
  refine ⟨fun c => ?_, fun c => ?_⟩
  · obtain ⟨⟨hm, hmr⟩, hk, hmi, ht, hl, hr⟩ := hI
    have h11 : v 0 11 = 1 := by
      rcases hmi.2.1 with q | q
      · exact absurd q c
      · exact q
    obtain ⟨km, kr⟩ := hk h11
    obtain ⟨ba, bb⟩ := iv_bits km kr
    ((repeat' first | refine hP _ ?_ | fail); try dsimp only)
    refine m_X5_become (Or.inr (Or.inl ⟨rfl, rfl, rfl, rfl, rfl, rfl⟩)) ba bb ?_
    ((repeat' first | refine hP _ ?_ | refine ⟨fun c1 => absurd c1 (by decide), fun _ => ?_⟩ | refine ⟨fun _ => ?_, fun c1 => absurd c1 (by decide)⟩ | refine ⟨am_vin rfl, ?_⟩ | refine ⟨fun c1 => ?_, fun c1 => ?_⟩ | refine ⟨Or.inr rfl, ?_⟩ | refine ⟨Or.inl rfl, ?_⟩ | fail); all_goals (try dsimp only at *))
    refine h 1 _ w (fun Q2 h2 => ?_)
    refine en_X12_undo rfl ?_
    intro P2 hP2
    ((repeat' first | refine hP2 _ ?_ | fail); try dsimp only)
    refine ⟨fun _ => ?_, fun e => absurd (show f_meet v 30 31 32 36 37 38 62 62 = 0 from e) (by
      have : f_meet v 30 31 32 36 37 38 62 62 = v 62 62 := by simp [f_meet, f_king, am_up_eq]
      rw [this, ← hmi.1, h11]
      decide)⟩
    ((repeat' first | refine hP2 _ ?_ | fail); try dsimp only)
    refine m_X12_copies (by decide) ?_
    ((repeat' first | refine hP2 _ ?_ | refine ⟨fun c1 => absurd c1 (by decide), fun _ => ?_⟩ | refine ⟨fun _ => ?_, fun c1 => absurd c1 (by decide)⟩ | refine ⟨am_vin rfl, ?_⟩ | refine ⟨fun c1 => ?_, fun c1 => ?_⟩ | refine ⟨Or.inr rfl, ?_⟩ | refine ⟨Or.inl rfl, ?_⟩ | fail); all_goals (try dsimp only at *))
    refine h2 _ w ?_
    refine ⟨⟨?_, ?_⟩, fun _ => ⟨?_, ?_⟩, ?_, ?_, ?_, ?_⟩
    · simpa [iv_meet, f_meet, f_king, f_row, am_up_eq] using km
    · simpa [iv_rng, f_meet, f_king, f_row, am_up_eq] using kr
    · simpa [iv_meet, f_meet, f_king, f_row, am_up_eq] using km
    · simpa [iv_rng, f_meet, f_king, f_row, am_up_eq] using kr
    · simpa [iv_misc, iv_bit, f_meet, f_king, f_row, am_up_eq] using hmi
    · simpa (config := { unfoldPartialApp := true }) [iv_tape, f_meet, f_king, f_row, am_up_eq, am_up_ne] using ht
    · simpa (config := { unfoldPartialApp := true }) [iv_law, f_meet, f_king, f_row, am_up_eq, am_up_ne] using hl
    · simpa (config := { unfoldPartialApp := true }) [iv_tre, f_meet, f_king, f_row, am_up_eq, am_up_ne] using hr
  · ((repeat' first | refine hP _ ?_ | refine ⟨fun c1 => absurd c1 (by decide), fun _ => ?_⟩ | refine ⟨fun _ => ?_, fun c1 => absurd c1 (by decide)⟩ | refine ⟨am_vin rfl, ?_⟩ | refine ⟨fun c1 => ?_, fun c1 => ?_⟩ | refine ⟨Or.inr rfl, ?_⟩ | refine ⟨Or.inl rfl, ?_⟩ | fail); all_goals (try dsimp only at *))
    refine h 0 v w (fun Q2 h2 => ?_)
    refine en_X12_undo rfl ?_
    intro P2 hP2
    ((repeat' first | refine hP2 _ ?_ | fail); try dsimp only)
    refine ⟨fun e => absurd (hI.2.2.1.1.symm.trans c) e, fun _ => ?_⟩
    ((repeat' first | refine hP2 _ ?_ | refine ⟨fun c1 => absurd c1 (by decide), fun _ => ?_⟩ | refine ⟨fun _ => ?_, fun c1 => absurd c1 (by decide)⟩ | refine ⟨am_vin rfl, ?_⟩ | refine ⟨fun c1 => ?_, fun c1 => ?_⟩ | refine ⟨Or.inr rfl, ?_⟩ | refine ⟨Or.inl rfl, ?_⟩ | fail); all_goals (try dsimp only at *))
    exact h2 v w hI
