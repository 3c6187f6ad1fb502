/-! ===== pair: stairs ===== -/
theorem am_ql {Q : Option Value → am_H → Prop} {r r' : Int64} {sh : List am_S} {v : am_V} {w : am_X} (e : r = r') (h : Q (some (.long r')) (sh, v, w)) : Q (some (.long r)) (sh, v, w) := e ▸ h
set_option maxRecDepth 100000 in
set_option maxHeartbeats 4000000 in
theorem pr_stairs {L : Nat} {xs : Nat → Int32} (a b c : Int32) : am_pairL L xs 126 228 [.int a, .int b, .int c] := by
  intro d v w Q hI h
  refine en_X11_stairs rfl ?_
  intro P hP
  have hR : ∀ {Q2 : Option Value → am_H → Prop}, (∀ (v2 : am_V) (w2 : am_X), INV v2 → Q2 (some (.long (-1))) (am_sh, v2, w2)) → ((a < 1 ∨ 40 < a) ∨ (b < 3 ∨ 5 < b) ∨ (c < 0 ∨ 40 < c)) → am_run (am_kc L xs) am_idx am_m (d + 50) 228 [.ref 62, .int a, .int b, .int c] (am_sh, v, w) 0 0 Q2 := by
    intro Q2 h2 hbad
    refine en_X12_stairs rfl ?_
    intro P2 hP2
    ((repeat' first | refine hP2 _ ?_ | fail); try dsimp only)
    refine m_X12_in (fun a1 a2 => ?_) (fun _ => ?_)
    · ((repeat' first | refine hP2 _ ?_ | fail); try dsimp only)
      refine ⟨fun e => absurd e (by decide), fun _ => ?_⟩
      ((repeat' first | refine hP2 _ ?_ | fail); try dsimp only)
      refine m_X12_in (fun b1 b2 => ?_) (fun _ => ?_)
      · ((repeat' first | refine hP2 _ ?_ | fail); try dsimp only)
        refine ⟨fun e => absurd e (by decide), fun _ => ?_⟩
        ((repeat' first | refine hP2 _ ?_ | fail); try dsimp only)
        refine m_X12_in (fun c1 c2 => ?_) (fun _ => ?_)
        · rcases hbad with q | q | q
          · exact (am_no q a1 a2).elim
          · exact (am_no q b1 b2).elim
          · exact (am_no q c1 c2).elim
        · ((repeat' first | refine hP2 _ ?_ | refine ⟨fun c1 => absurd c1 (by decide), fun _ => ?_⟩ | refine ⟨fun _ => ?_, fun c1 => absurd c1 (by decide)⟩ | refine ⟨am_vin rfl, ?_⟩ | refine ⟨fun c1 => ?_, fun c1 => ?_⟩ | refine ⟨Or.inr rfl, ?_⟩ | refine ⟨Or.inl rfl, ?_⟩ | fail); all_goals (try dsimp only at *))
          exact h2 v w hI
      · ((repeat' first | refine hP2 _ ?_ | refine ⟨fun c1 => absurd c1 (by decide), fun _ => ?_⟩ | refine ⟨fun _ => ?_, fun c1 => absurd c1 (by decide)⟩ | refine ⟨am_vin rfl, ?_⟩ | refine ⟨fun c1 => ?_, fun c1 => ?_⟩ | refine ⟨Or.inr rfl, ?_⟩ | refine ⟨Or.inl rfl, ?_⟩ | fail); all_goals (try dsimp only at *))
        exact h2 v w hI
    · ((repeat' first | refine hP2 _ ?_ | refine ⟨fun c1 => absurd c1 (by decide), fun _ => ?_⟩ | refine ⟨fun _ => ?_, fun c1 => absurd c1 (by decide)⟩ | refine ⟨am_vin rfl, ?_⟩ | refine ⟨fun c1 => ?_, fun c1 => ?_⟩ | refine ⟨Or.inr rfl, ?_⟩ | refine ⟨Or.inl rfl, ?_⟩ | fail); all_goals (try dsimp only at *))
      exact h2 v w hI
  ((repeat' first | refine hP _ ?_ | fail); try dsimp only)
  refine m_X11_outside (fun q => ?_) (fun a1 a2 => ?_)
  · ((repeat' first | refine hP _ ?_ | refine ⟨fun c1 => absurd c1 (by decide), fun _ => ?_⟩ | refine ⟨fun _ => ?_, fun c1 => absurd c1 (by decide)⟩ | refine ⟨am_vin rfl, ?_⟩ | refine ⟨fun c1 => ?_, fun c1 => ?_⟩ | refine ⟨Or.inr rfl, ?_⟩ | refine ⟨Or.inl rfl, ?_⟩ | fail); all_goals (try dsimp only at *))
    exact h (-1) v w (fun Q2 h2 => hR h2 (Or.inl q))
  · ((repeat' first | refine hP _ ?_ | fail); try dsimp only)
    refine ⟨fun e => absurd rfl e, fun _ => ?_⟩
    ((repeat' first | refine hP _ ?_ | fail); try dsimp only)
    refine m_X11_outside (fun q => ?_) (fun b1 b2 => ?_)
    · ((repeat' first | refine hP _ ?_ | refine ⟨fun c1 => absurd c1 (by decide), fun _ => ?_⟩ | refine ⟨fun _ => ?_, fun c1 => absurd c1 (by decide)⟩ | refine ⟨am_vin rfl, ?_⟩ | refine ⟨fun c1 => ?_, fun c1 => ?_⟩ | refine ⟨Or.inr rfl, ?_⟩ | refine ⟨Or.inl rfl, ?_⟩ | fail); all_goals (try dsimp only at *))
      exact h (-1) v w (fun Q2 h2 => hR h2 (Or.inr (Or.inl q)))
    · ((repeat' first | refine hP _ ?_ | fail); try dsimp only)
      refine ⟨fun e => absurd rfl e, fun _ => ?_⟩
      ((repeat' first | refine hP _ ?_ | fail); try dsimp only)
      refine m_X11_outside (fun q => ?_) (fun c1 c2 => ?_)
      · ((repeat' first | refine hP _ ?_ | refine ⟨fun c1 => absurd c1 (by decide), fun _ => ?_⟩ | refine ⟨fun _ => ?_, fun c1 => absurd c1 (by decide)⟩ | refine ⟨am_vin rfl, ?_⟩ | refine ⟨fun c1 => ?_, fun c1 => ?_⟩ | refine ⟨Or.inr rfl, ?_⟩ | refine ⟨Or.inl rfl, ?_⟩ | fail); all_goals (try dsimp only at *))
        exact h (-1) v w (fun Q2 h2 => hR h2 (Or.inr (Or.inr q)))
      · ((repeat' first | refine hP _ ?_ | fail); try dsimp only)
        refine ⟨fun _ => ?_, fun e => absurd rfl e⟩
        obtain ⟨n, hn1, hn, rfl⟩ := am_nat1 a1 a2 (n := 40) rfl
        obtain ⟨k, hk, rfl⟩ := am_nat (Int32.le_trans (by decide) b1) b2 (n := 5) rfl
        have hk1 : 3 ≤ k := (nI_leI (a := 3) (by omega) (by omega)).mp b1
        obtain ⟨T, hT, rfl⟩ := am_nat c1 c2 (n := 40) rfl
        ((repeat' first | refine hP _ ?_ | fail); try dsimp only)
        refine m_X0_climb hn ⟨hk1, hk⟩ hT (fun w' => ?_)
        ((repeat' first | refine hP _ ?_ | fail); try dsimp only)
        have hval : (if T = 0 then stS (stF k) n 40 else stF k T n) = stR (stF k) n T 41 := by
          by_cases hT0 : T = 0
          · rw [if_pos hT0, hT0, stR_0 (by rw [stF, if_neg (by omega)]) 40]
          · rw [if_neg hT0, stR_T (by omega), if_pos (by omega)]
        refine am_ql hval (h _ v w' (fun Q2 h2 => ?_))
        refine en_X12_stairs rfl ?_
        intro P2 hP2
        ((repeat' first | refine hP2 _ ?_ | fail); try dsimp only)
        refine m_X12_in1 a1 a2 ?_
        ((repeat' first | refine hP2 _ ?_ | fail); try dsimp only)
        refine ⟨fun e => absurd e (by decide), fun _ => ?_⟩
        ((repeat' first | refine hP2 _ ?_ | fail); try dsimp only)
        refine m_X12_in1 b1 b2 ?_
        ((repeat' first | refine hP2 _ ?_ | fail); try dsimp only)
        refine ⟨fun e => absurd e (by decide), fun _ => ?_⟩
        ((repeat' first | refine hP2 _ ?_ | fail); try dsimp only)
        refine m_X12_in1 c1 c2 ?_
        ((repeat' first | refine hP2 _ ?_ | fail); try dsimp only)
        refine ⟨fun _ => ?_, fun e => absurd e (by decide)⟩
        ((iterate 4 refine hP2 _ ?_); try dsimp only)
        exact lp_stairs2 ⟨hn1, hn⟩ ⟨hk1, hk⟩ hT hP2 (fun w2 => h2 v w2 hI)
