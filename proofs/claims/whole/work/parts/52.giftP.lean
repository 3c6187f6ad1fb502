/-! ===== pair: gifts ===== -/
theorem gFull : ∀ n, n < 9 → ∀ i, i < n → (2 ^ n - 1) / 2 ^ i % 2 = 1 := by decide +kernel
theorem gB_full {b : Nat → Nat} {s : Nat} : ∀ k, (∀ i, i < k → s / 2 ^ i % 2 = 1) → gB b s k = gA b k ∧ gC s k = k
  | 0, _ => ⟨rfl, rfl⟩
  | k + 1, h => by
    obtain ⟨e1, e2⟩ := gB_full (b := b) k (fun i hi => h i (by omega))
    unfold gB gC gA
    rw [if_pos (h k (by omega)), h k (by omega), e1, e2]
    exact ⟨rfl, rfl⟩
theorem iv_imp_gi : ∀ k, k ∈ iv_impL → k ≠ 43 ∧ k ≠ 44 ∧ k ≠ 45 ∧ k ≠ 1 ∧ k ≠ 62 ∧ k ≠ 101 := by decide
set_option maxRecDepth 100000 in
set_option maxHeartbeats 4000000 in
theorem pr_gifts {L : Nat} {xs : Nat → Int32} (a b : Int32) : am_pair L xs 121 218 [.int a, .int b] := by
  intro d v w Q hI h
  obtain ⟨n, hn, hn1, hn2, hby⟩ := hI.2.2.2.1
  refine en_X11_gifts rfl ?_
  intro P hP
  ((repeat' first | refine hP _ ?_ | fail); try dsimp only)
  refine m_X11_outside (fun c => ?_) (fun c1 c2 => ?_)
  · ((repeat' first | refine hP _ ?_ | refine ⟨fun c1 => absurd c1 (by decide), fun _ => ?_⟩ | refine ⟨fun _ => ?_, fun c1 => absurd c1 (by decide)⟩ | refine ⟨am_vin rfl, ?_⟩ | refine ⟨fun c1 => ?_, fun c1 => ?_⟩ | refine ⟨Or.inr rfl, ?_⟩ | refine ⟨Or.inl rfl, ?_⟩ | fail); all_goals (try dsimp only at *))
    refine h (-1) v w (fun Q2 h2 => ?_)
    refine en_X12_gifts rfl ?_
    intro P2 hP2
    ((repeat' first | refine hP2 _ ?_ | fail); try dsimp only)
    refine m_X12_in0 c ?_
    ((repeat' first | refine hP2 _ ?_ | refine ⟨fun c1 => absurd c1 (by decide), fun _ => ?_⟩ | refine ⟨fun _ => ?_, fun c1 => absurd c1 (by decide)⟩ | refine ⟨am_vin rfl, ?_⟩ | refine ⟨fun c1 => ?_, fun c1 => ?_⟩ | refine ⟨Or.inr rfl, ?_⟩ | refine ⟨Or.inl rfl, ?_⟩ | fail); all_goals (try dsimp only at *))
    exact h2 v w hI
  · ((repeat' first | refine hP _ ?_ | fail); try dsimp only)
    refine ⟨fun e => absurd rfl e, fun _ => ?_⟩
    ((repeat' first | refine hP _ ?_ | fail); try dsimp only)
    refine m_X11_outside (fun e => ?_) (fun e1 e2 => ?_)
    · ((repeat' first | refine hP _ ?_ | refine ⟨fun c1 => absurd c1 (by decide), fun _ => ?_⟩ | refine ⟨fun _ => ?_, fun c1 => absurd c1 (by decide)⟩ | refine ⟨am_vin rfl, ?_⟩ | refine ⟨fun c1 => ?_, fun c1 => ?_⟩ | refine ⟨Or.inr rfl, ?_⟩ | refine ⟨Or.inl rfl, ?_⟩ | fail); all_goals (try dsimp only at *))
      refine h (-1) v w (fun Q2 h2 => ?_)
      refine en_X12_gifts rfl ?_
      intro P2 hP2
      ((repeat' first | refine hP2 _ ?_ | fail); try dsimp only)
      refine m_X12_in1 c1 c2 ?_
      ((repeat' first | refine hP2 _ ?_ | fail); try dsimp only)
      refine ⟨fun e => absurd e (by decide), fun _ => ?_⟩
      ((repeat' first | refine hP2 _ ?_ | fail); try dsimp only)
      refine m_X12_in0 e ?_
      ((repeat' first | refine hP2 _ ?_ | refine ⟨fun c1 => absurd c1 (by decide), fun _ => ?_⟩ | refine ⟨fun _ => ?_, fun c1 => absurd c1 (by decide)⟩ | refine ⟨am_vin rfl, ?_⟩ | refine ⟨fun c1 => ?_, fun c1 => ?_⟩ | refine ⟨Or.inr rfl, ?_⟩ | refine ⟨Or.inl rfl, ?_⟩ | fail); all_goals (try dsimp only at *))
      exact h2 v w hI
    · have hb := am_01 e1 e2
      obtain ⟨N, hN1, hN, rfl⟩ := am_nat1 c1 c2 (n := 8) rfl
      have eN : 2 * nI N = nI (2 * N) := pk_mul 2 N
      ((repeat' first | refine hP _ ?_ | fail); try dsimp only)
      refine ⟨fun e => absurd rfl e, fun _ => ?_⟩
      ((repeat' first | refine hP _ ?_ | fail); try dsimp only)
      rw [eN]
      have hr0 : ∀ {Q2 : Option Value → am_H → Prop} {v1 : am_V} {P2 : am_C → Prop}, (∀ q, am_step (am_kc L xs) am_idx (am_run (am_kc L xs) am_idx am_m (d + 49)) cd_X12_gifts 0 0 Q2 P2 q → P2 q) → v1 62 6 = nI n → (nI (2 * N) ≤ nI n → P2 (cd_X12_gifts.drop 18, am_ent 4 [Value.ref 62, Value.int (nI N), Value.int b], [], (am_sh, v1, w), 0, 0)) → (¬ nI (2 * N) ≤ nI n → Q2 (some (.int (-1))) (am_sh, v1, w)) → P2 (cd_X12_gifts, am_ent 4 [Value.ref 62, Value.int (nI N), Value.int b], [], (am_sh, v1, w), 0, 0) := by
        intro Q2 v1 P2 hP2 g6 k1 k2
        ((repeat' first | refine hP2 _ ?_ | fail); try dsimp only)
        refine m_X12_in1 c1 c2 ?_
        ((repeat' first | refine hP2 _ ?_ | fail); try dsimp only)
        refine ⟨fun e => absurd e (by decide), fun _ => ?_⟩
        ((repeat' first | refine hP2 _ ?_ | fail); try dsimp only)
        refine m_X12_in1 e1 e2 ?_
        ((repeat' first | refine hP2 _ ?_ | fail); try dsimp only)
        refine ⟨fun e => absurd e (by decide), fun _ => ?_⟩
        ((repeat' first | refine hP2 _ ?_ | fail); try dsimp only)
        rw [eN, g6]
        refine ⟨fun q => k1 q, fun q => ?_⟩
        ((repeat' first | refine hP2 _ ?_ | fail); try dsimp only)
        exact k2 q
      refine m_X8_has (fun q => ?_) (fun q => ?_)
      · rw [hn1] at q
        have hle : 2 * N ≤ n := (nI_leI (by omega) (by omega)).mp q
        ((repeat' first | refine hP _ ?_ | fail); try dsimp only)
        refine ⟨fun _ => ?_, fun e => absurd e (by decide)⟩
        ((repeat' first | refine hP _ ?_ | fail); try dsimp only)
        refine m_openGifts (t := tpN v) hN (tpN_lt v) hn1 hn hle (fun j hj => (hby j hj).trans (tpN_eq v j)) (fun v1 h8 h9 hfr => ?_)
        ((repeat' first | refine hP _ ?_ | fail); try dsimp only)
        refine m_X8_clear ?_
        obtain ⟨fB, fC⟩ := gB_full (b := fun i => tpN v (N + i)) N (gFull N (by omega))
        have hcl : ∀ (v2 : am_V) (Q2 : Option Value → am_H → Prop) (r : Int32), (∀ (v2 : am_V) (w2 : am_X), INV v2 → Q2 (some (.int r)) (am_sh, v2, w2)) → (∀ k, k ≠ 101 → v2 k = am_up (am_up v1 1 1 0) 62 6 0 k) → Q2 (some (.int r)) (am_sh, v2, w) := by
          intro v2 Q2 r h2 f2
          refine h2 _ w (hI.clr (fun k hk => ?_) (fun j hj => ?_) ?_ ?_)
          · obtain ⟨y1, y2, y3, y4, y5, y6⟩ := iv_imp_gi k hk
            rw [f2 k y6, am_up_ne _ _ _ y5, am_up_ne _ _ _ y4, hfr k y1 y2 y3]
          · have : j ≠ 6 := by
              intro z; rw [z] at hj; revert hj; decide
            rw [f2 62 (by decide)]
            simp [am_up_eq, this]
            rw [hfr 62 (by decide) (by decide) (by decide)]
          · rw [f2 1 (by decide)]
            simp [am_up_eq]
          · rw [f2 62 (by decide)]
            simp [am_up_eq]
        have h66 : ∀ j, j < 2 * N → am_up (am_up v1 1 1 0) 62 6 0 66 j &&& 255 = nI (tpN v j) := fun j hj => by
          simp [am_up_eq]
          rw [hfr 66 (by decide) (by decide) (by decide)]
          exact tpN_eq v j
        have hS := gS_le (m := true) (gA_lt (tpN_lt v) N) (gA_lt (a := fun i => tpN v (N + i)) (fun j => tpN_lt v _) N)
        rw [gA_len] at hS
        have fin : Q (some (.int (if b = 0 then nI (gS true (gA (tpN v) N) (gA (fun i => tpN v (N + i)) N)) else nI (gS false (gA (tpN v) N) (gA (fun i => tpN v (N + i)) N))))) (am_sh, am_up v1 1 1 0, w) := by
          refine h _ _ w (fun Q2 h2 => ?_)
          refine en_X12_gifts rfl ?_
          intro P2 hP2
          refine hr0 hP2 (by simp [am_up_eq]; rw [hfr 62 (by decide) (by decide) (by decide)]; exact hn2) (fun _ => ?_) (fun z => absurd q z)
          ((repeat' first | refine hP2 _ ?_ | fail); try dsimp only)
          refine m_leastGifts (m := true) (cap := 0) (t := tpN v) ⟨hN1, hN⟩ (Or.inl ⟨rfl, rfl⟩) (tpN_lt v) h66 (fun v2 X hg f2 => ?_)
          unfold gGood at hg
          rw [fB, fC] at hg
          have hX : X = gS true (gA (tpN v) N) (gA (fun i => tpN v (N + i)) N) := Nat.le_antisymm (hg.2 (Or.inl rfl)) hg.1
          ((repeat' first | refine hP2 _ ?_ | fail); try dsimp only)
          rcases hb with rfl | rfl
          · refine ⟨fun e => absurd rfl e, fun _ => ?_⟩
            ((repeat' first | refine hP2 _ ?_ | fail); try dsimp only)
            rw [hX]
            exact hcl v2 Q2 _ h2 f2
          · refine ⟨fun _ => ?_, fun e => absurd e (by decide)⟩
            ((repeat' first | refine hP2 _ ?_ | fail); try dsimp only)
            refine m_leastGifts (m := false) (cap := X) (t := tpN v) ⟨hN1, hN⟩ (Or.inr ⟨rfl, rfl, by omega⟩) (tpN_lt v) (fun j hj => by rw [f2 66 (by decide)]; exact h66 j hj) (fun v3 X3 hg3 f3 => ?_)
            unfold gGood at hg3
            rw [fB, fC] at hg3
            have hX3 : X3 = gS false (gA (tpN v) N) (gA (fun i => tpN v (N + i)) N) := Nat.le_antisymm (hg3.2 (Or.inr (by omega))) hg3.1
            ((repeat' first | refine hP2 _ ?_ | fail); try dsimp only)
            rw [hX3]
            exact hcl v3 Q2 _ h2 (fun k hk => by rw [f3 k hk, f2 k hk])
        have u8 : am_up v1 1 1 0 43 8 = nI (gS true (gA (tpN v) N) (gA (fun i => tpN v (N + i)) N)) := by simp [am_up_eq]; exact h8
        have u9 : am_up v1 1 1 0 43 9 = nI (gS false (gA (tpN v) N) (gA (fun i => tpN v (N + i)) N)) := by simp [am_up_eq]; exact h9
        rcases hb with rfl | rfl
        · ((repeat' first | refine hP _ ?_ | refine ⟨fun c1 => absurd c1 (by decide), fun _ => ?_⟩ | refine ⟨fun _ => ?_, fun c1 => absurd c1 (by decide)⟩ | refine ⟨am_vin rfl, ?_⟩ | refine ⟨fun c1 => ?_, fun c1 => ?_⟩ | refine ⟨Or.inr rfl, ?_⟩ | refine ⟨Or.inl rfl, ?_⟩ | fail); all_goals (try dsimp only at *))
          refine am_qr ?_ rfl fin
          rw [if_pos rfl]
          exact u8
        · ((repeat' first | refine hP _ ?_ | refine ⟨fun c1 => absurd c1 (by decide), fun _ => ?_⟩ | refine ⟨fun _ => ?_, fun c1 => absurd c1 (by decide)⟩ | refine ⟨am_vin rfl, ?_⟩ | refine ⟨fun c1 => ?_, fun c1 => ?_⟩ | refine ⟨Or.inr rfl, ?_⟩ | refine ⟨Or.inl rfl, ?_⟩ | fail); all_goals (try dsimp only at *))
          refine am_qr ?_ rfl fin
          rw [if_neg (by decide)]
          exact u9
      · rw [hn1] at q
        ((repeat' first | refine hP _ ?_ | refine ⟨fun c1 => absurd c1 (by decide), fun _ => ?_⟩ | refine ⟨fun _ => ?_, fun c1 => absurd c1 (by decide)⟩ | refine ⟨am_vin rfl, ?_⟩ | refine ⟨fun c1 => ?_, fun c1 => ?_⟩ | refine ⟨Or.inr rfl, ?_⟩ | refine ⟨Or.inl rfl, ?_⟩ | fail); all_goals (try dsimp only at *))
        refine h (-1) v w (fun Q2 h2 => ?_)
        refine en_X12_gifts rfl ?_
        intro P2 hP2
        exact hr0 hP2 hn2 (fun z => absurd z (Int32.not_le.mpr q)) (fun _ => h2 v w hI)
