/-! ===== pair: count ===== -/
theorem am_le9 {b : Int32} (h : b < 0 ∨ 0 + Int32.ofNat 10 ≤ b) : b ≠ 0 ∧ b ≠ 1 ∧ b ≠ 2 ∧ b ≠ 3 ∧ b ≠ 4 ∧ b ≠ 5 ∧ b ≠ 6 ∧ b ≠ 7 ∧ b ≠ 8 ∧ b ≠ 9 := by
  refine ⟨?_, ?_, ?_, ?_, ?_, ?_, ?_, ?_, ?_, ?_⟩
  all_goals
    rintro rfl
    exact absurd h (by decide)
set_option maxRecDepth 100000 in
set_option maxHeartbeats 4000000 in
theorem pr_count {L : Nat} {xs : Nat → Int32} (a : Int32) : am_pair L xs 132 234 [.int a] := by
  intro d v w Q hI h
  have hm := hI.1.1
  have hmi := hI.2.2.1
  obtain ⟨m, -, t1, t6, -⟩ := hI.2.2.2.1
  obtain ⟨us, z, hl⟩ := lw_is_iff.mp hI.2.2.2.2.1
  obtain ⟨ls, hN, hlines, h48, hln, hnm, -⟩ := hI.2.2.2.2.2
  refine en_X11_count rfl ?_
  intro P hP
  ((repeat' first | refine hP _ ?_ | fail); try dsimp only)
  refine ⟨⟨fun e => ?_, fun e => ?_, fun e => ?_, fun e => ?_, fun e => ?_, fun e => ?_, fun e => ?_, fun e => ?_, fun e => ?_, fun e => ?_, trivial⟩, fun e => ?_⟩
  · have e : a = 0 := e
    subst e
    ((repeat' first | refine hP _ ?_ | fail); try dsimp only)
    refine h _ v w (fun Q2 h2 => ?_)
    refine en_X12_count rfl ?_
    intro P2 hP2
    ((repeat' first | refine hP2 _ ?_ | fail); try dsimp only)
    refine ⟨⟨fun _ => ?_, fun c => absurd c (by decide), fun c => absurd c (by decide), fun c => absurd c (by decide), fun c => absurd c (by decide), fun c => absurd c (by decide), fun c => absurd c (by decide), fun c => absurd c (by decide), fun c => absurd c (by decide), fun c => absurd c (by decide), trivial⟩, fun c => absurd c (by decide)⟩
    ((repeat' first | refine hP2 _ ?_ | fail); try dsimp only)
    refine ⟨am_vin rfl, ?_⟩
    ((repeat' first | refine hP2 _ ?_ | fail); try dsimp only)
    rw [tn_12, ← hm.2.2.1]
    exact h2 v w hI
  · have e : a = 1 := e
    subst e
    ((repeat' first | refine hP _ ?_ | fail); try dsimp only)
    refine m_haveMet (Or.inl ⟨rfl, rfl, rfl⟩) hm (fun q => ?_) (fun q => ?_)
    · ((repeat' first | refine hP _ ?_ | fail); try dsimp only)
      refine ⟨fun c => absurd c (by decide), fun _ => ?_⟩
      ((repeat' first | refine hP _ ?_ | fail); try dsimp only)
      refine h 1 v w (fun Q2 h2 => ?_)
      refine en_X12_count rfl ?_
      intro P2 hP2
      ((repeat' first | refine hP2 _ ?_ | fail); try dsimp only)
      refine ⟨⟨fun c => absurd c (by decide), fun _ => ?_, fun c => absurd c (by decide), fun c => absurd c (by decide), fun c => absurd c (by decide), fun c => absurd c (by decide), fun c => absurd c (by decide), fun c => absurd c (by decide), fun c => absurd c (by decide), fun c => absurd c (by decide), trivial⟩, fun c => absurd c (by decide)⟩
      ((repeat' first | refine hP2 _ ?_ | fail); try dsimp only)
      refine m_metR (fun _ => ?_) (fun t => absurd q t)
      ((repeat' first | refine hP2 _ ?_ | fail); try dsimp only)
      refine ⟨fun c => absurd c (by decide), fun _ => ?_⟩
      ((repeat' first | refine hP2 _ ?_ | fail); try dsimp only)
      exact h2 v w hI
    · ((repeat' first | refine hP _ ?_ | fail); try dsimp only)
      refine ⟨fun _ => ?_, fun c => absurd rfl c⟩
      ((repeat' first | refine hP _ ?_ | fail); try dsimp only)
      refine h 0 v w (fun Q2 h2 => ?_)
      refine en_X12_count rfl ?_
      intro P2 hP2
      ((repeat' first | refine hP2 _ ?_ | fail); try dsimp only)
      refine ⟨⟨fun c => absurd c (by decide), fun _ => ?_, fun c => absurd c (by decide), fun c => absurd c (by decide), fun c => absurd c (by decide), fun c => absurd c (by decide), fun c => absurd c (by decide), fun c => absurd c (by decide), fun c => absurd c (by decide), fun c => absurd c (by decide), trivial⟩, fun c => absurd c (by decide)⟩
      ((repeat' first | refine hP2 _ ?_ | fail); try dsimp only)
      refine m_metR (fun t => absurd t q) (fun _ => ?_)
      ((repeat' first | refine hP2 _ ?_ | fail); try dsimp only)
      refine ⟨fun _ => ?_, fun c => absurd rfl c⟩
      ((repeat' first | refine hP2 _ ?_ | fail); try dsimp only)
      exact h2 v w hI
  · have e : a = 2 := e
    subst e
    ((repeat' first | refine hP _ ?_ | fail); try dsimp only)
    refine m_whoLeft (Or.inl ⟨rfl, rfl, rfl⟩) hm ?_
    ((repeat' first | refine hP _ ?_ | fail); try dsimp only)
    refine h _ v w (fun Q2 h2 => ?_)
    refine en_X12_count rfl ?_
    intro P2 hP2
    ((repeat' first | refine hP2 _ ?_ | fail); try dsimp only)
    refine ⟨⟨fun c => absurd c (by decide), fun c => absurd c (by decide), fun _ => ?_, fun c => absurd c (by decide), fun c => absurd c (by decide), fun c => absurd c (by decide), fun c => absurd c (by decide), fun c => absurd c (by decide), fun c => absurd c (by decide), fun c => absurd c (by decide), trivial⟩, fun c => absurd c (by decide)⟩
    ((repeat' first | refine hP2 _ ?_ | fail); try dsimp only)
    refine m_goneR hI.1.2.2.1.2.2.2.2.1 hI.1.2.2.1.2.2.2.2.2 ?_
    ((repeat' first | refine hP2 _ ?_ | fail); try dsimp only)
    exact h2 v w hI
  · have e : a = 3 := e
    subst e
    ((repeat' first | refine hP _ ?_ | fail); try dsimp only)
    refine h _ v w (fun Q2 h2 => ?_)
    refine en_X12_count rfl ?_
    intro P2 hP2
    ((repeat' first | refine hP2 _ ?_ | fail); try dsimp only)
    refine ⟨⟨fun c => absurd c (by decide), fun c => absurd c (by decide), fun c => absurd c (by decide), fun _ => ?_, fun c => absurd c (by decide), fun c => absurd c (by decide), fun c => absurd c (by decide), fun c => absurd c (by decide), fun c => absurd c (by decide), fun c => absurd c (by decide), trivial⟩, fun c => absurd c (by decide)⟩
    ((repeat' first | refine hP2 _ ?_ | fail); try dsimp only)
    rw [hlines] at h2
    rw [h48]
    exact h2 v w hI
  · have e : a = 4 := e
    subst e
    ((repeat' first | refine hP _ ?_ | fail); try dsimp only)
    refine h _ v w (fun Q2 h2 => ?_)
    refine en_X12_count rfl ?_
    intro P2 hP2
    ((repeat' first | refine hP2 _ ?_ | fail); try dsimp only)
    refine ⟨⟨fun c => absurd c (by decide), fun c => absurd c (by decide), fun c => absurd c (by decide), fun c => absurd c (by decide), fun _ => ?_, fun c => absurd c (by decide), fun c => absurd c (by decide), fun c => absurd c (by decide), fun c => absurd c (by decide), fun c => absurd c (by decide), trivial⟩, fun c => absurd c (by decide)⟩
    ((repeat' first | refine hP2 _ ?_ | fail); try dsimp only)
    rw [hl.2.1] at h2
    rw [hl.2.2.2.1]
    exact h2 v w hI
  · have e : a = 5 := e
    subst e
    ((repeat' first | refine hP _ ?_ | fail); try dsimp only)
    refine h _ v w (fun Q2 h2 => ?_)
    refine en_X12_count rfl ?_
    intro P2 hP2
    ((repeat' first | refine hP2 _ ?_ | fail); try dsimp only)
    refine ⟨⟨fun c => absurd c (by decide), fun c => absurd c (by decide), fun c => absurd c (by decide), fun c => absurd c (by decide), fun c => absurd c (by decide), fun _ => ?_, fun c => absurd c (by decide), fun c => absurd c (by decide), fun c => absurd c (by decide), fun c => absurd c (by decide), trivial⟩, fun c => absurd c (by decide)⟩
    ((repeat' first | refine hP2 _ ?_ | fail); try dsimp only)
    rw [t1] at h2
    rw [t6]
    exact h2 v w hI
  · have e : a = 6 := e
    subst e
    ((repeat' first | refine hP _ ?_ | fail); try dsimp only)
    refine h _ v w (fun Q2 h2 => ?_)
    refine en_X12_count rfl ?_
    intro P2 hP2
    ((repeat' first | refine hP2 _ ?_ | fail); try dsimp only)
    refine ⟨⟨fun c => absurd c (by decide), fun c => absurd c (by decide), fun c => absurd c (by decide), fun c => absurd c (by decide), fun c => absurd c (by decide), fun c => absurd c (by decide), fun _ => ?_, fun c => absurd c (by decide), fun c => absurd c (by decide), fun c => absurd c (by decide), trivial⟩, fun c => absurd c (by decide)⟩
    ((repeat' first | refine hP2 _ ?_ | fail); try dsimp only)
    refine ⟨am_vin rfl, ?_⟩
    ((repeat' first | refine hP2 _ ?_ | fail); try dsimp only)
    rw [tn_13, ← hm.2.2.2]
    exact h2 v w hI
  · have e : a = 7 := e
    subst e
    ((repeat' first | refine hP _ ?_ | fail); try dsimp only)
    refine h _ v w (fun Q2 h2 => ?_)
    refine en_X12_count rfl ?_
    intro P2 hP2
    ((repeat' first | refine hP2 _ ?_ | fail); try dsimp only)
    refine ⟨⟨fun c => absurd c (by decide), fun c => absurd c (by decide), fun c => absurd c (by decide), fun c => absurd c (by decide), fun c => absurd c (by decide), fun c => absurd c (by decide), fun c => absurd c (by decide), fun _ => ?_, fun c => absurd c (by decide), fun c => absurd c (by decide), trivial⟩, fun c => absurd c (by decide)⟩
    ((repeat' first | refine hP2 _ ?_ | fail); try dsimp only)
    rw [← hmi.2.2.1]
    exact h2 v w hI
  · have e : a = 8 := e
    subst e
    ((repeat' first | refine hP _ ?_ | fail); try dsimp only)
    refine h _ v w (fun Q2 h2 => ?_)
    refine en_X12_count rfl ?_
    intro P2 hP2
    ((repeat' first | refine hP2 _ ?_ | fail); try dsimp only)
    refine ⟨⟨fun c => absurd c (by decide), fun c => absurd c (by decide), fun c => absurd c (by decide), fun c => absurd c (by decide), fun c => absurd c (by decide), fun c => absurd c (by decide), fun c => absurd c (by decide), fun c => absurd c (by decide), fun _ => ?_, fun c => absurd c (by decide), trivial⟩, fun c => absurd c (by decide)⟩
    ((repeat' first | refine hP2 _ ?_ | fail); try dsimp only)
    rw [← hmi.2.2.2.1]
    exact h2 v w hI
  · have e : a = 9 := e
    subst e
    ((repeat' first | refine hP _ ?_ | fail); try dsimp only)
    refine h _ v w (fun Q2 h2 => ?_)
    refine en_X12_count rfl ?_
    intro P2 hP2
    ((repeat' first | refine hP2 _ ?_ | fail); try dsimp only)
    refine ⟨⟨fun c => absurd c (by decide), fun c => absurd c (by decide), fun c => absurd c (by decide), fun c => absurd c (by decide), fun c => absurd c (by decide), fun c => absurd c (by decide), fun c => absurd c (by decide), fun c => absurd c (by decide), fun c => absurd c (by decide), fun _ => ?_, trivial⟩, fun c => absurd c (by decide)⟩
    ((repeat' first | refine hP2 _ ?_ | fail); try dsimp only)
    refine m_named hN h48 hln (fun x hx => ?_)
    ((repeat' first | refine hP2 _ ?_ | fail); try dsimp only)
    rw [ts_ext hx hnm]
    exact h2 v w hI
  · have ne := am_le9 e
    ((repeat' first | refine hP _ ?_ | fail); try dsimp only)
    refine h (-1) v w (fun Q2 h2 => ?_)
    refine en_X12_count rfl ?_
    intro P2 hP2
    ((repeat' first | refine hP2 _ ?_ | fail); try dsimp only)
    refine ⟨⟨fun c => absurd c ne.1, fun c => absurd c ne.2.1, fun c => absurd c ne.2.2.1, fun c => absurd c ne.2.2.2.1, fun c => absurd c ne.2.2.2.2.1, fun c => absurd c ne.2.2.2.2.2.1, fun c => absurd c ne.2.2.2.2.2.2.1, fun c => absurd c ne.2.2.2.2.2.2.2.1, fun c => absurd c ne.2.2.2.2.2.2.2.2.1, fun c => absurd c ne.2.2.2.2.2.2.2.2.2, trivial⟩, fun _ => ?_⟩
    ((repeat' first | refine hP2 _ ?_ | fail); try dsimp only)
    exact h2 v w hI
