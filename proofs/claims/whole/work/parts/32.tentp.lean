/-! ===== pair: tent ===== -/
set_option maxRecDepth 100000 in
set_option maxHeartbeats 4000000 in
theorem pr_tent {L : Nat} {xs : Nat → Int32} (a b : Int32) : am_pair L xs 125 227 [.int a, .int b] := by
  intro d v w Q hI h
  obtain ⟨n, hn, hn1, hn2, hby⟩ := hI.2.2.2.1
  refine en_X11_tent rfl ?_
  intro P hP
  ((repeat' first | refine hP _ ?_ | fail); try dsimp only)
  refine m_X11_outside (fun c => ?_) (fun c1 c2 => ?_)
  · ((repeat' first | refine hP _ ?_ | refine ⟨fun c1 => absurd c1 (by decide), fun _ => ?_⟩ | refine ⟨fun _ => ?_, fun c1 => absurd c1 (by decide)⟩ | refine ⟨am_vin rfl, ?_⟩ | refine ⟨fun c1 => ?_, fun c1 => ?_⟩ | refine ⟨Or.inr rfl, ?_⟩ | refine ⟨Or.inl rfl, ?_⟩ | fail); all_goals (try dsimp only at *))
    refine h (-1) v w (fun Q2 h2 => ?_)
    refine en_X12_tent rfl ?_
    intro P2 hP2
    ((repeat' first | refine hP2 _ ?_ | fail); try dsimp only)
    refine m_X12_in0 c ?_
    ((repeat' first | refine hP2 _ ?_ | refine ⟨fun c1 => absurd c1 (by decide), fun _ => ?_⟩ | refine ⟨fun _ => ?_, fun c1 => absurd c1 (by decide)⟩ | refine ⟨am_vin rfl, ?_⟩ | refine ⟨fun c1 => ?_, fun c1 => ?_⟩ | refine ⟨Or.inr rfl, ?_⟩ | refine ⟨Or.inl rfl, ?_⟩ | fail); all_goals (try dsimp only at *))
    exact h2 v w hI
  · ((repeat' first | refine hP _ ?_ | fail); try dsimp only)
    refine ⟨fun e => absurd rfl e, fun _ => ?_⟩
    ((repeat' first | refine hP _ ?_ | fail); try dsimp only)
    refine m_X11_outside (fun e => ?_) (fun e1 e2 => ?_)
    · ((repeat' first | refine hP _ ?_ | refine ⟨fun c1 => absurd c1 (by decide), fun _ => ?_⟩ | refine ⟨fun _ => ?_, fun c1 => absurd c1 (by decide)⟩ | refine ⟨am_vin rfl, ?_⟩ | refine ⟨fun c1 => ?_, fun c1 => ?_⟩ | refine ⟨Or.inr rfl, ?_⟩ | refine ⟨Or.inl rfl, ?_⟩ | fail); all_goals (try dsimp only at *))
      refine h (-1) v w (fun Q2 h2 => ?_)
      refine en_X12_tent rfl ?_
      intro P2 hP2
      ((repeat' first | refine hP2 _ ?_ | fail); try dsimp only)
      refine m_X12_in1 c1 c2 ?_
      ((repeat' first | refine hP2 _ ?_ | fail); try dsimp only)
      refine ⟨fun e => absurd e (by decide), fun _ => ?_⟩
      ((repeat' first | refine hP2 _ ?_ | fail); try dsimp only)
      refine m_X12_in0 e ?_
      ((repeat' first | refine hP2 _ ?_ | refine ⟨fun c1 => absurd c1 (by decide), fun _ => ?_⟩ | refine ⟨fun _ => ?_, fun c1 => absurd c1 (by decide)⟩ | refine ⟨am_vin rfl, ?_⟩ | refine ⟨fun c1 => ?_, fun c1 => ?_⟩ | refine ⟨Or.inr rfl, ?_⟩ | refine ⟨Or.inl rfl, ?_⟩ | fail); all_goals (try dsimp only at *))
      exact h2 v w hI
    · have hb := am_01 e1 e2
      obtain ⟨N, hN, rfl⟩ := am_nat (Int32.le_trans (by decide) c1) c2 (n := 20) rfl
      have hN1 : 2 ≤ N := (nI_leI (a := 2) (by omega) (by omega)).mp c1
      ((repeat' first | refine hP _ ?_ | fail); try dsimp only)
      refine ⟨fun e => absurd rfl e, fun _ => ?_⟩
      ((repeat' first | refine hP _ ?_ | fail); try dsimp only)
      have hr0 : ∀ {Q2 : Option Value → am_H → Prop} {v1 : am_V} {P2 : am_C → Prop}, (∀ q, am_step (am_kc L xs) am_idx (am_run (am_kc L xs) am_idx am_m (d + 49)) cd_X12_tent 0 0 Q2 P2 q → P2 q) → v1 62 6 = nI n → (nI (N) ≤ nI n → P2 (cd_X12_tent.drop 16, am_ent 8 [Value.ref 62, Value.int (nI N), Value.int b], [], (am_sh, v1, w), 0, 0)) → (¬ nI (N) ≤ nI n → Q2 (some (.int (-1))) (am_sh, v1, w)) → P2 (cd_X12_tent, am_ent 8 [Value.ref 62, Value.int (nI N), Value.int b], [], (am_sh, v1, w), 0, 0) := by
        intro Q2 v1 P2 hP2 g6 k1 k2
        ((repeat' first | refine hP2 _ ?_ | fail); try dsimp only)
        refine m_X12_in1 c1 c2 ?_
        ((repeat' first | refine hP2 _ ?_ | fail); try dsimp only)
        refine ⟨fun e => absurd e (by decide), fun _ => ?_⟩
        ((repeat' first | refine hP2 _ ?_ | fail); try dsimp only)
        refine m_X12_in1 e1 e2 ?_
        ((repeat' first | refine hP2 _ ?_ | fail); try dsimp only)
        refine ⟨fun e => absurd e (by decide), fun _ => ?_⟩
        ((repeat' first | refine hP2 _ ?_ | fail); try dsimp only)
        rw [g6]
        refine ⟨fun q => k1 q, fun q => ?_⟩
        ((repeat' first | refine hP2 _ ?_ | fail); try dsimp only)
        exact k2 q
      refine m_X8_has (fun q => ?_) (fun q => ?_)
      · rw [hn1] at q
        have hle : N ≤ n := (nI_leI (by omega) (by omega)).mp q
        ((repeat' first | refine hP _ ?_ | fail); try dsimp only)
        refine ⟨fun _ => ?_, fun e => absurd e (by decide)⟩
        ((repeat' first | refine hP _ ?_ | fail); try dsimp only)
        refine m_X0_cut (t := tpN v) (tpN_lt v) (fun j hj => (hby j hj).trans (tpN_eq v j)) hn1 hn hle ⟨hN1, hN⟩ (fun bb pp hg => ?_)
        ((repeat' first | refine hP _ ?_ | fail); try dsimp only)
        refine m_X8_clear ?_
        have hg2 : tnG (fun i => adif (tsum (tpN v) N) (2 * tsum (tpN v) i)) (N - 1) 1 1000000 0 = (bb, pp) := by
          have b2 := tsum_le (tpN_lt v) N
          have hm : ∀ i, i ≤ N → tsum (tpN v) i ≤ tsum (tpN v) N := fun i hi => by
            have := tsum_mono (t := tpN v) (a := i) (N - i)
            rw [show i + (N - i) = N by omega] at this
            exact this
          rw [← hg]
          rw [show N - 1 = (N - 2) + 1 by omega]
          rw [tnG_st (fun i => adif (tsum (tpN v) N) (2 * tsum (tpN v) i)) (N - 2) 1 1000000 2147483647 0 0 (by have := hm 1 (by omega); unfold adif; split <;> omega) (by have := hm 1 (by omega); unfold adif; split <;> omega)]
          apply tnG_congr
          intro j h1 h2
          have := hm j (by omega)
        
          unfold adif
          split <;> split <;> omega
        have fin : Q (some (.int (if b = 0 then nI pp else nI bb))) (am_sh, am_up (am_up (am_up v 43 8 (nI bb)) 43 9 (nI pp)) 1 1 0, w) := by
          refine h _ _ w (fun Q2 h2 => ?_)
          refine en_X12_tent rfl ?_
          intro P2 hP2
          refine hr0 hP2 (by simp [am_up_eq]; exact hn2) (fun _ => ?_) (fun z => absurd q z)
          ((iterate 7 refine hP2 _ ?_); try dsimp only)
          refine lp_tent2 (t := tpN v) (tpN_lt v) (fun j => by rw [← tpN_eq]; simp [am_up_eq]) ⟨hN1, hN⟩ hP2 (fun b2 p2 hh => ?_)
          rw [hg2] at hh
          cases hh
          refine h2 _ w (hI.clr (fun k hk => ?_) (fun j hj => ?_) ?_ ?_)
          · have : k ≠ 62 ∧ k ≠ 1 ∧ k ≠ 43 := by
              refine ⟨?_, ?_, ?_⟩ <;> (intro z; rw [z] at hk; revert hk; decide)
            rw [am_up_ne _ _ _ this.1, am_up_ne _ _ _ this.2.1, am_up_ne _ _ _ this.2.2, am_up_ne _ _ _ this.2.2]
          · have : j ≠ 6 := by
              intro z; rw [z] at hj; revert hj; decide
            simp [am_up_eq, this]
          · simp [am_up_eq]
          · simp [am_up_eq]
        rcases hb with rfl | rfl
        · ((repeat' first | refine hP _ ?_ | refine ⟨fun c1 => absurd c1 (by decide), fun _ => ?_⟩ | refine ⟨fun _ => ?_, fun c1 => absurd c1 (by decide)⟩ | refine ⟨am_vin rfl, ?_⟩ | refine ⟨fun c1 => ?_, fun c1 => ?_⟩ | refine ⟨Or.inr rfl, ?_⟩ | refine ⟨Or.inl rfl, ?_⟩ | fail); all_goals (try dsimp only at *))
          refine am_qr ?_ rfl fin
          rw [if_pos rfl]
          simp [am_up_eq]
        · ((repeat' first | refine hP _ ?_ | refine ⟨fun c1 => absurd c1 (by decide), fun _ => ?_⟩ | refine ⟨fun _ => ?_, fun c1 => absurd c1 (by decide)⟩ | refine ⟨am_vin rfl, ?_⟩ | refine ⟨fun c1 => ?_, fun c1 => ?_⟩ | refine ⟨Or.inr rfl, ?_⟩ | refine ⟨Or.inl rfl, ?_⟩ | fail); all_goals (try dsimp only at *))
          refine am_qr ?_ rfl fin
          rw [if_neg (by decide)]
          simp [am_up_eq]
      · rw [hn1] at q
        ((repeat' first | refine hP _ ?_ | refine ⟨fun c1 => absurd c1 (by decide), fun _ => ?_⟩ | refine ⟨fun _ => ?_, fun c1 => absurd c1 (by decide)⟩ | refine ⟨am_vin rfl, ?_⟩ | refine ⟨fun c1 => ?_, fun c1 => ?_⟩ | refine ⟨Or.inr rfl, ?_⟩ | refine ⟨Or.inl rfl, ?_⟩ | fail); all_goals (try dsimp only at *))
        refine h (-1) v w (fun Q2 h2 => ?_)
        refine en_X12_tent rfl ?_
        intro P2 hP2
        exact hr0 hP2 hn2 (fun z => absurd z (Int32.not_le.mpr q)) (fun _ => h2 v w hI)
