/-! ===== pair: cushions ===== -/
theorem iv_imp_cu : ∀ k, k ∈ iv_impL → k ≠ 43 ∧ k ≠ 46 ∧ k ≠ 1 ∧ k ≠ 62 := by decide
theorem am_02 {k : Int32} (h1 : 0 ≤ k) (h2 : k ≤ 2) : k = 0 ∨ k = 1 ∨ k = 2 := by
  have a := Int32.le_iff_toInt_le.mp h1
  have b := Int32.le_iff_toInt_le.mp h2
  rw [show (0 : Int32).toInt = 0 from rfl] at a
  rw [show (2 : Int32).toInt = 2 from rfl] at b
  rcases (show k.toInt = 0 ∨ k.toInt = 1 ∨ k.toInt = 2 by omega) with h | h | h
  · exact Or.inl (Int32.toInt_inj.mp h)
  · exact Or.inr (Or.inl (Int32.toInt_inj.mp h))
  · exact Or.inr (Or.inr (Int32.toInt_inj.mp h))
theorem cu_m1 {x : Nat} (hx : x < 2 ^ 20) : ¬ nI x = -1 ∧ ¬ nI x = -2 := by
  refine ⟨fun z => ?_, fun z => ?_⟩ <;> (have := nI_pos' (n := x) (by omega); rw [z] at this; exact absurd this (by decide))
set_option maxRecDepth 100000 in
set_option maxHeartbeats 4000000 in
theorem pr_cushions {L : Nat} {xs : Nat → Int32} (a b c b4 : Int32) : am_pair L xs 122 220 [.int a, .int b, .int c, .int b4] := by
  intro d v w Q hI h
  obtain ⟨tn, htn, htn1, htn2, hby⟩ := hI.2.2.2.1
  refine en_X11_cushions rfl ?_
  intro P hP
  have hR : ∀ {Q2 : Option Value → am_H → Prop}, (∀ (v2 : am_V) (w2 : am_X), INV v2 → Q2 (some (.int (-1))) (am_sh, v2, w2)) → ((a < 1 ∨ 8 < a) ∨ (b < 0 ∨ 99 < b) ∨ (c < 0 ∨ 99 < c) ∨ (b4 < 0 ∨ 2 < b4) ∨ ¬ a ≤ nI tn) → am_run (am_kc L xs) am_idx am_m (d + 50) 220 [.ref 62, .int a, .int b, .int c, .int b4] (am_sh, v, w) 0 0 Q2 := by
    intro Q2 h2 hbad
    refine en_X12_cushions rfl ?_
    intro P2 hP2
    ((repeat' first | refine hP2 _ ?_ | fail); try dsimp only)
    refine m_X12_in (fun a1 a2 => ?_) (fun _ => ?_)
    · ((repeat' first | refine hP2 _ ?_ | fail); try dsimp only)
      refine ⟨fun e => absurd e (by decide), fun _ => ?_⟩
      ((repeat' first | refine hP2 _ ?_ | fail); try dsimp only)
      refine m_X12_in (fun b1 b2 => ?_) (fun _ => ?_)
      · ((repeat' first | refine hP2 _ ?_ | fail); try dsimp only)
        refine ⟨fun e => absurd e (by decide), fun _ => ?_⟩
        ((repeat' first | refine hP2 _ ?_ | fail); try dsimp only)
        refine m_X12_in (fun c1 c2 => ?_) (fun _ => ?_)
        · ((repeat' first | refine hP2 _ ?_ | fail); try dsimp only)
          refine ⟨fun e => absurd e (by decide), fun _ => ?_⟩
          ((repeat' first | refine hP2 _ ?_ | fail); try dsimp only)
          refine m_X12_in (fun d1 d2 => ?_) (fun _ => ?_)
          · ((repeat' first | refine hP2 _ ?_ | fail); try dsimp only)
            refine ⟨fun e => absurd e (by decide), fun _ => ?_⟩
            ((repeat' first | refine hP2 _ ?_ | fail); try dsimp only)
            rw [htn2]
            rcases hbad with q | q | q | q | q
            · exact (am_no q a1 a2).elim
            · exact (am_no q b1 b2).elim
            · exact (am_no q c1 c2).elim
            · exact (am_no q d1 d2).elim
            · refine ⟨fun z => absurd z q, fun _ => ?_⟩
              ((repeat' first | refine hP2 _ ?_ | refine ⟨fun c1 => absurd c1 (by decide), fun _ => ?_⟩ | refine ⟨fun _ => ?_, fun c1 => absurd c1 (by decide)⟩ | refine ⟨am_vin rfl, ?_⟩ | refine ⟨fun c1 => ?_, fun c1 => ?_⟩ | refine ⟨Or.inr rfl, ?_⟩ | refine ⟨Or.inl rfl, ?_⟩ | fail); all_goals (try dsimp only at *))
              exact h2 v w hI
          · ((repeat' first | refine hP2 _ ?_ | refine ⟨fun c1 => absurd c1 (by decide), fun _ => ?_⟩ | refine ⟨fun _ => ?_, fun c1 => absurd c1 (by decide)⟩ | refine ⟨am_vin rfl, ?_⟩ | refine ⟨fun c1 => ?_, fun c1 => ?_⟩ | refine ⟨Or.inr rfl, ?_⟩ | refine ⟨Or.inl rfl, ?_⟩ | fail); all_goals (try dsimp only at *))
            exact h2 v w hI
        · ((repeat' first | refine hP2 _ ?_ | refine ⟨fun c1 => absurd c1 (by decide), fun _ => ?_⟩ | refine ⟨fun _ => ?_, fun c1 => absurd c1 (by decide)⟩ | refine ⟨am_vin rfl, ?_⟩ | refine ⟨fun c1 => ?_, fun c1 => ?_⟩ | refine ⟨Or.inr rfl, ?_⟩ | refine ⟨Or.inl rfl, ?_⟩ | fail); all_goals (try dsimp only at *))
          exact h2 v w hI
      · ((repeat' first | refine hP2 _ ?_ | refine ⟨fun c1 => absurd c1 (by decide), fun _ => ?_⟩ | refine ⟨fun _ => ?_, fun c1 => absurd c1 (by decide)⟩ | refine ⟨am_vin rfl, ?_⟩ | refine ⟨fun c1 => ?_, fun c1 => ?_⟩ | refine ⟨Or.inr rfl, ?_⟩ | refine ⟨Or.inl rfl, ?_⟩ | fail); all_goals (try dsimp only at *))
        exact h2 v w hI
    · ((repeat' first | refine hP2 _ ?_ | refine ⟨fun c1 => absurd c1 (by decide), fun _ => ?_⟩ | refine ⟨fun _ => ?_, fun c1 => absurd c1 (by decide)⟩ | refine ⟨am_vin rfl, ?_⟩ | refine ⟨fun c1 => ?_, fun c1 => ?_⟩ | refine ⟨Or.inr rfl, ?_⟩ | refine ⟨Or.inl rfl, ?_⟩ | fail); all_goals (try dsimp only at *))
      exact h2 v w hI
  ((repeat' first | refine hP _ ?_ | fail); try dsimp only)
  refine m_X11_outside (fun q => ?_) (fun a1 a2 => ?_)
  · ((repeat' first | refine hP _ ?_ | refine ⟨fun c1 => absurd c1 (by decide), fun _ => ?_⟩ | refine ⟨fun _ => ?_, fun c1 => absurd c1 (by decide)⟩ | refine ⟨am_vin rfl, ?_⟩ | refine ⟨fun c1 => ?_, fun c1 => ?_⟩ | refine ⟨Or.inr rfl, ?_⟩ | refine ⟨Or.inl rfl, ?_⟩ | fail); all_goals (try dsimp only at *))
    exact h (-1) v w (fun Q2 h2 => hR h2 (Or.inl q))
  ((repeat' first | refine hP _ ?_ | fail); try dsimp only)
  refine ⟨fun e => absurd rfl e, fun _ => ?_⟩
  ((repeat' first | refine hP _ ?_ | fail); try dsimp only)
  refine m_X11_outside (fun q => ?_) (fun b1 b2 => ?_)
  · ((repeat' first | refine hP _ ?_ | refine ⟨fun c1 => absurd c1 (by decide), fun _ => ?_⟩ | refine ⟨fun _ => ?_, fun c1 => absurd c1 (by decide)⟩ | refine ⟨am_vin rfl, ?_⟩ | refine ⟨fun c1 => ?_, fun c1 => ?_⟩ | refine ⟨Or.inr rfl, ?_⟩ | refine ⟨Or.inl rfl, ?_⟩ | fail); all_goals (try dsimp only at *))
    exact h (-1) v w (fun Q2 h2 => hR h2 (Or.inr (Or.inl q)))
  ((repeat' first | refine hP _ ?_ | fail); try dsimp only)
  refine ⟨fun e => absurd rfl e, fun _ => ?_⟩
  ((repeat' first | refine hP _ ?_ | fail); try dsimp only)
  refine m_X11_outside (fun q => ?_) (fun c1 c2 => ?_)
  · ((repeat' first | refine hP _ ?_ | refine ⟨fun c1 => absurd c1 (by decide), fun _ => ?_⟩ | refine ⟨fun _ => ?_, fun c1 => absurd c1 (by decide)⟩ | refine ⟨am_vin rfl, ?_⟩ | refine ⟨fun c1 => ?_, fun c1 => ?_⟩ | refine ⟨Or.inr rfl, ?_⟩ | refine ⟨Or.inl rfl, ?_⟩ | fail); all_goals (try dsimp only at *))
    exact h (-1) v w (fun Q2 h2 => hR h2 (Or.inr (Or.inr (Or.inl q))))
  ((repeat' first | refine hP _ ?_ | fail); try dsimp only)
  refine ⟨fun e => absurd rfl e, fun _ => ?_⟩
  ((repeat' first | refine hP _ ?_ | fail); try dsimp only)
  refine m_X11_outside (fun q => ?_) (fun d1 d2 => ?_)
  · ((repeat' first | refine hP _ ?_ | refine ⟨fun c1 => absurd c1 (by decide), fun _ => ?_⟩ | refine ⟨fun _ => ?_, fun c1 => absurd c1 (by decide)⟩ | refine ⟨am_vin rfl, ?_⟩ | refine ⟨fun c1 => ?_, fun c1 => ?_⟩ | refine ⟨Or.inr rfl, ?_⟩ | refine ⟨Or.inl rfl, ?_⟩ | fail); all_goals (try dsimp only at *))
    exact h (-1) v w (fun Q2 h2 => hR h2 (Or.inr (Or.inr (Or.inr (Or.inl q)))))
  ((repeat' first | refine hP _ ?_ | fail); try dsimp only)
  refine ⟨fun e => absurd rfl e, fun _ => ?_⟩
  ((repeat' first | refine hP _ ?_ | fail); try dsimp only)
  refine ⟨fun e => absurd e (by decide), fun _ => ?_⟩
  obtain ⟨n, hn1, hn, rfl⟩ := am_nat1 a1 a2 (n := 8) rfl
  obtain ⟨f, hf, rfl⟩ := am_nat b1 b2 (n := 99) rfl
  obtain ⟨o, ho, rfl⟩ := am_nat c1 c2 (n := 99) rfl
  ((repeat' first | refine hP _ ?_ | fail); try dsimp only)
  refine m_X8_has (fun q => ?_) (fun q => ?_)
  · rw [htn1] at q
    have hle : n ≤ tn := (nI_leI (by omega) (by omega)).mp q
    ((repeat' first | refine hP _ ?_ | fail); try dsimp only)
    refine ⟨fun _ => ?_, fun e => absurd e (by decide)⟩
    have hr0 : ∀ {Q2 : Option Value → am_H → Prop} {v1 : am_V} {P2 : am_C → Prop}, (∀ q, am_step (am_kc L xs) am_idx (am_run (am_kc L xs) am_idx am_m (d + 49)) cd_X12_cushions 0 0 Q2 P2 q → P2 q) → v1 62 6 = nI tn → (∀ j, j < n → v1 66 j &&& 255 = v 2 j) → ((∀ j, j < n → 1 ≤ v 2 j ∧ v 2 j ≤ 30) → ∀ l5, P2 (cd_X12_cushions.drop 45, [some (.ref 62), some (.int (nI n)), some (.int (nI f)), some (.int (nI o)), some (.int b4), some (.int l5), none, none, none, none, none], [], (am_sh, am_up v1 62 6 0, w), 0, 0)) → (∀ j, j < n → (v 2 j < 1 ∨ 30 < v 2 j) → Q2 (some (.int (-3))) (am_sh, am_up v1 62 6 0, w)) → P2 (cd_X12_cushions, am_ent 11 [Value.ref 62, Value.int (nI n), Value.int (nI f), Value.int (nI o), Value.int b4], [], (am_sh, v1, w), 0, 0) := by
      intro Q2 v1 P2 hP2 g6 g66 k1 k2
      have u66 : ∀ j, am_up v1 62 6 0 66 j = v1 66 j := fun j => by simp [am_up_eq]
      have lp : ∀ (k i : Nat), i + k = n → (∀ j, j < i → 1 ≤ v 2 j ∧ v 2 j ≤ 30) → P2 (cd_X12_cushions.drop 31, [some (.ref 62), some (.int (nI n)), some (.int (nI f)), some (.int (nI o)), some (.int b4), some (.int (nI i)), none, none, none, none, none], [], (am_sh, am_up v1 62 6 0, w), 0, 0) := by
        intro k
        induction k with
        | zero =>
          intro i hi hh
          ((repeat' first | refine hP2 _ ?_ | fail); try dsimp only)
          refine ⟨fun _ => ?_, fun z => absurd (nI_le (show n ≤ i by omega) (by omega)) z⟩
          exact k1 (fun j hj => hh j (by omega)) _
        | succ k ih =>
          intro i hi hh
          ((repeat' first | refine hP2 _ ?_ | fail); try dsimp only)
          refine ⟨fun z => absurd z (nI_ge (by omega) (by omega)), fun _ => ?_⟩
          ((repeat' first | refine hP2 _ ?_ | fail); try dsimp only)
          refine m_X12_octet (by omega) ?_
          rw [u66, g66 i (by omega)]
          ((repeat' first | refine hP2 _ ?_ | fail); try dsimp only)
          refine m_X12_in (fun z1 z2 => ?_) (fun z => ?_)
          · have e := ih (i + 1) (by omega) (fun j hj => by
              rcases Nat.lt_or_ge j i with y | y
              · exact hh j y
              · rw [show j = i by omega]
                exact ⟨z1, z2⟩)
            rw [← nI_1] at e
            ((repeat' first | refine hP2 _ ?_ | fail); try dsimp only)
            refine ⟨fun _ => ?_, fun e => absurd e (by decide)⟩
            ((iterate 2 refine hP2 _ ?_); try dsimp only)
            exact e
          · ((repeat' first | refine hP2 _ ?_ | fail); try dsimp only)
            refine ⟨fun e => absurd rfl e, fun _ => ?_⟩
            ((repeat' first | refine hP2 _ ?_ | fail); try dsimp only)
            exact k2 i (by omega) z
      ((repeat' first | refine hP2 _ ?_ | fail); try dsimp only)
      refine m_X12_in1 a1 a2 ?_
      ((repeat' first | refine hP2 _ ?_ | fail); try dsimp only)
      refine ⟨fun e => absurd e (by decide), fun _ => ?_⟩
      ((repeat' first | refine hP2 _ ?_ | fail); try dsimp only)
      refine m_X12_in1 b1 b2 ?_
      ((repeat' first | refine hP2 _ ?_ | fail); try dsimp only)
      refine ⟨fun e => absurd e (by decide), fun _ => ?_⟩
      ((repeat' first | refine hP2 _ ?_ | fail); try dsimp only)
      refine m_X12_in1 c1 c2 ?_
      ((repeat' first | refine hP2 _ ?_ | fail); try dsimp only)
      refine ⟨fun e => absurd e (by decide), fun _ => ?_⟩
      ((repeat' first | refine hP2 _ ?_ | fail); try dsimp only)
      refine m_X12_in1 d1 d2 ?_
      ((repeat' first | refine hP2 _ ?_ | fail); try dsimp only)
      refine ⟨fun e => absurd e (by decide), fun _ => ?_⟩
      ((repeat' first | refine hP2 _ ?_ | fail); try dsimp only)
      rw [g6]
      refine ⟨fun _ => ?_, fun z => absurd q z⟩
      ((iterate 5 refine hP2 _ ?_); try dsimp only)
      exact lp n 0 (by omega) (fun j hj => absurd hj (by omega))
    ((repeat' first | refine hP _ ?_ | fail); try dsimp only)
    refine m_allWithin htn1 htn hle (fun hall => ?_) (fun j0 hj0 hbad => ?_)
    · ((repeat' first | refine hP _ ?_ | fail); try dsimp only)
      refine ⟨fun e => absurd e (by decide), fun _ => ?_⟩
      ((repeat' first | refine hP _ ?_ | fail); try dsimp only)
      refine m_pile (t := tpN v) ⟨hn1, hn⟩ (tpN_lt v) hf ho htn1 htn hle (fun j hj => (hby j hj).trans (tpN_eq v j)) (fun v1 hcu hv1 => ?_)
      ((repeat' first | refine hP _ ?_ | fail); try dsimp only)
      refine m_X8_clear ?_
      have fin : ∀ r : Int32, (∀ (v2 : am_V) (P2 : am_C → Prop) (Q2 : Option Value → am_H → Prop) (l8 l9 l10 : Option Value), (∀ q, am_step (am_kc L xs) am_idx (am_run (am_kc L xs) am_idx am_m (d + 49)) cd_X12_cushions 0 0 Q2 P2 q → P2 q) → Q2 (some (.int r)) (am_sh, v2, w) → P2 (cd_X12_cushions.drop 98, [some (.ref 62), some (.int (nI n)), some (.int (nI f)), some (.int (nI o)), some (.int b4), some (.int (cuL (cuR (tpN v) n f o (2 ^ n) 0 none)).1), some (.int (cuL (cuR (tpN v) n f o (2 ^ n) 0 none)).2.1), some (.int (cuL (cuR (tpN v) n f o (2 ^ n) 0 none)).2.2), l8, l9, l10], [], (am_sh, v2, w), 0, 0)) → Q (some (.int r)) (am_sh, am_up v1 1 1 0, w) := by
        intro r hr
        refine h r _ w (fun Q2 h2 => ?_)
        refine en_X12_cushions rfl ?_
        intro P2 hP2
        refine hr0 hP2 (by simp [am_up_eq]; rw [hv1 62 (by decide) (by decide)]; exact htn2) (fun j hj => by simp [am_up_eq]; rw [hv1 66 (by decide) (by decide)]; exact (hby j (by omega)).symm) (fun _ l5 => ?_) (fun j hj z => (am_no z (hall j hj).1 (hall j hj).2).elim)
        refine lp_cush2 (t := tpN v) ⟨hn1, hn⟩ (tpN_lt v) hf ho (fun j hj => by simp [am_up_eq]; rw [hv1 66 (by decide) (by decide)]; exact tpN_eq v j) hP2 (fun l8 l9 l10 => ?_) l5
        refine hr _ P2 Q2 l8 l9 l10 hP2 (h2 _ w (hI.clr (fun k hk => ?_) (fun j hj => ?_) ?_ ?_))
        · obtain ⟨y1, y2, y3, y4⟩ := iv_imp_cu k hk
          rw [am_up_ne _ _ _ y4, am_up_ne _ _ _ y3, hv1 k y1 y2]
        · have : j ≠ 6 := by
            intro z; rw [z] at hj; revert hj; decide
          simp [am_up_eq, this]
          rw [hv1 62 (by decide) (by decide)]
        · simp [am_up_eq]
        · simp [am_up_eq]
      ((repeat' first | refine hP _ ?_ | fail); try dsimp only)
      refine ⟨fun _ => ?_, fun e => absurd e (by decide)⟩
      ((repeat' first | refine hP _ ?_ | fail); try dsimp only)
      have u43 : am_up v1 1 1 0 43 = v1 43 := am_up_ne _ _ _ (by decide)
      rw [u43]
      cases hst : cuR (tpN v) n f o (2 ^ n) 0 none with
      | none =>
        rw [hst] at hcu fin
        refine ⟨fun z => absurd hcu z, fun _ => ?_⟩
        ((repeat' first | refine hP _ ?_ | fail); try dsimp only)
        refine fin (-2) (fun v2 P2 Q2 l8 l9 l10 hP2 hq => ?_)
        ((repeat' first | refine hP2 _ ?_ | fail); try dsimp only)
        refine ⟨fun z => absurd rfl z, fun _ => ?_⟩
        ((repeat' first | refine hP2 _ ?_ | fail); try dsimp only)
        exact hq
      | some st =>
        obtain ⟨x, y, z⟩ := st
        rw [hst] at hcu fin
        obtain ⟨g8, g9, g10, hx⟩ := hcu
        obtain ⟨x1, x2⟩ := cu_m1 (x := x) (by omega)
        rw [g8]
        refine ⟨fun _ => ?_, fun z => absurd z x1⟩
        ((repeat' first | refine hP _ ?_ | fail); try dsimp only)
        rcases am_02 d1 d2 with rfl | rfl | rfl
        · refine ⟨fun _ => ?_, fun e => absurd rfl e⟩
          ((repeat' first | refine hP _ ?_ | fail); try dsimp only)
          rw [u43, g8]
          refine fin _ (fun v2 P2 Q2 l8 l9 l10 hP2 hq => ?_)
          ((repeat' first | refine hP2 _ ?_ | fail); try dsimp only)
          refine ⟨fun _ => ?_, fun e => absurd e x2⟩
          ((repeat' first | refine hP2 _ ?_ | refine ⟨fun c1 => absurd c1 (by decide), fun _ => ?_⟩ | refine ⟨fun _ => ?_, fun c1 => absurd c1 (by decide)⟩ | refine ⟨am_vin rfl, ?_⟩ | refine ⟨fun c1 => ?_, fun c1 => ?_⟩ | refine ⟨Or.inr rfl, ?_⟩ | refine ⟨Or.inl rfl, ?_⟩ | fail); all_goals (try dsimp only at *))
          exact hq
        · refine ⟨fun e => absurd e (by decide), fun _ => ⟨fun _ => ?_, fun e => absurd rfl e⟩⟩
          ((repeat' first | refine hP _ ?_ | fail); try dsimp only)
          rw [u43, g9]
          refine fin _ (fun v2 P2 Q2 l8 l9 l10 hP2 hq => ?_)
          ((repeat' first | refine hP2 _ ?_ | fail); try dsimp only)
          refine ⟨fun _ => ?_, fun e => absurd e x2⟩
          ((repeat' first | refine hP2 _ ?_ | refine ⟨fun c1 => absurd c1 (by decide), fun _ => ?_⟩ | refine ⟨fun _ => ?_, fun c1 => absurd c1 (by decide)⟩ | refine ⟨am_vin rfl, ?_⟩ | refine ⟨fun c1 => ?_, fun c1 => ?_⟩ | refine ⟨Or.inr rfl, ?_⟩ | refine ⟨Or.inl rfl, ?_⟩ | fail); all_goals (try dsimp only at *))
          exact hq
        · refine ⟨fun e => absurd e (by decide), fun _ => ⟨fun e => absurd e (by decide), fun _ => ?_⟩⟩
          ((repeat' first | refine hP _ ?_ | fail); try dsimp only)
          rw [u43, g10]
          refine fin _ (fun v2 P2 Q2 l8 l9 l10 hP2 hq => ?_)
          ((repeat' first | refine hP2 _ ?_ | fail); try dsimp only)
          refine ⟨fun _ => ?_, fun e => absurd e x2⟩
          ((repeat' first | refine hP2 _ ?_ | refine ⟨fun c1 => absurd c1 (by decide), fun _ => ?_⟩ | refine ⟨fun _ => ?_, fun c1 => absurd c1 (by decide)⟩ | refine ⟨am_vin rfl, ?_⟩ | refine ⟨fun c1 => ?_, fun c1 => ?_⟩ | refine ⟨Or.inr rfl, ?_⟩ | refine ⟨Or.inl rfl, ?_⟩ | fail); all_goals (try dsimp only at *))
          exact hq
    · ((repeat' first | refine hP _ ?_ | fail); try dsimp only)
      refine ⟨fun _ => ?_, fun e => absurd rfl e⟩
      ((repeat' first | refine hP _ ?_ | fail); try dsimp only)
      refine m_X8_clear ?_
      ((repeat' first | refine hP _ ?_ | fail); try dsimp only)
      refine ⟨fun e => absurd rfl e, fun _ => ?_⟩
      ((repeat' first | refine hP _ ?_ | fail); try dsimp only)
      refine h (-3) _ w (fun Q2 h2 => ?_)
      refine en_X12_cushions rfl ?_
      intro P2 hP2
      have fin2 : INV (am_up (am_up v 1 1 0) 62 6 0) := by
        refine hI.clr (fun k hk => ?_) (fun j hj => ?_) ?_ ?_
        · obtain ⟨y1, y2, y3, y4⟩ := iv_imp_cu k hk
          rw [am_up_ne _ _ _ y4, am_up_ne _ _ _ y3]
        · have : j ≠ 6 := by
            intro z; rw [z] at hj; revert hj; decide
          simp [am_up_eq, this]
        · simp [am_up_eq]
        · simp [am_up_eq]
      refine hr0 hP2 (by simp [am_up_eq]; exact htn2) (fun j hj => by simp [am_up_eq]; exact (hby j (by omega)).symm) (fun hall => (am_no hbad (hall j0 hj0).1 (hall j0 hj0).2).elim) (fun j hj z => h2 _ w fin2)
  · rw [htn1] at q
    ((repeat' first | refine hP _ ?_ | refine ⟨fun c1 => absurd c1 (by decide), fun _ => ?_⟩ | refine ⟨fun _ => ?_, fun c1 => absurd c1 (by decide)⟩ | refine ⟨am_vin rfl, ?_⟩ | refine ⟨fun c1 => ?_, fun c1 => ?_⟩ | refine ⟨Or.inr rfl, ?_⟩ | refine ⟨Or.inl rfl, ?_⟩ | fail); all_goals (try dsimp only at *))
    exact h (-1) v w (fun Q2 h2 => hR h2 (Or.inr (Or.inr (Or.inr (Or.inr (Int32.not_le.mpr q))))))
