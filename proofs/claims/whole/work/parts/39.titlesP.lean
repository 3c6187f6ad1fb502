/-! ===== pair: titles ===== -/
theorem iv_imp_48 : ∀ k, k ∈ iv_impL → (k < 48 ∨ 58 < k) ∧ k ≠ 100 ∧ k ≠ 62 ∧ k ≠ 1 ∧ k ≠ 43 := by decide
set_option maxRecDepth 100000 in
set_option maxHeartbeats 4000000 in
theorem pr_titles {L : Nat} {xs : Nat → Int32} (a b c : Int32) : am_pair L xs 120 215 [.int a, .int b, .int c] := by
  intro d v w Q hI h
  obtain ⟨tn, htn, htn1, htn2, hby⟩ := hI.2.2.2.1
  refine en_X11_titles rfl ?_
  intro P hP
  -- the reference's checks: refused
  have hR : ∀ {Q2 : Option Value → am_H → Prop}, (∀ (v2 : am_V) (w2 : am_X), INV v2 → Q2 (some (.int (-1))) (am_sh, v2, w2)) → ((a < 1 ∨ 10 < a) ∨ (b < 1 ∨ 10 < b) ∨ (c < 0 ∨ 1 < c) ∨ ¬ a + b ≤ nI tn) → am_run (am_kc L xs) am_idx am_m (d + 50) 215 [.ref 62, .int a, .int b, .int c] (am_sh, v, w) 0 0 Q2 := by
    intro Q2 h2 hbad
    refine en_X12_titles rfl ?_
    intro P2 hP2
    ((repeat' first | refine hP2 _ ?_ | fail); try dsimp only)
    refine m_X12_in (fun a1 a2 => ?_) (fun _ => ?_)
    · ((repeat' first | refine hP2 _ ?_ | fail); try dsimp only)
      refine ⟨fun e => absurd e (by decide), fun _ => ?_⟩
      ((repeat' first | refine hP2 _ ?_ | fail); try dsimp only)
      refine m_X12_in (fun b1 b2 => ?_) (fun _ => ?_)
      · ((repeat' first | refine hP2 _ ?_ | fail); try dsimp only)
        refine ⟨fun e => absurd e (by decide), fun _ => ?_⟩
        ((repeat' first | refine hP2 _ ?_ | fail); try dsimp only)
        refine m_X12_in (fun c1 c2 => ?_) (fun _ => ?_)
        · ((repeat' first | refine hP2 _ ?_ | fail); try dsimp only)
          refine ⟨fun e => absurd e (by decide), fun _ => ?_⟩
          ((repeat' first | refine hP2 _ ?_ | fail); try dsimp only)
          rw [htn2]
          rcases hbad with q | q | q | q
          · exact (am_no q a1 a2).elim
          · exact (am_no q b1 b2).elim
          · exact (am_no q c1 c2).elim
          · refine ⟨fun z => absurd z q, fun _ => ?_⟩
            ((repeat' first | refine hP2 _ ?_ | refine ⟨fun c1 => absurd c1 (by decide), fun _ => ?_⟩ | refine ⟨fun _ => ?_, fun c1 => absurd c1 (by decide)⟩ | refine ⟨am_vin rfl, ?_⟩ | refine ⟨fun c1 => ?_, fun c1 => ?_⟩ | refine ⟨Or.inr rfl, ?_⟩ | refine ⟨Or.inl rfl, ?_⟩ | fail); all_goals (try dsimp only at *))
            exact h2 v w hI
        · ((repeat' first | refine hP2 _ ?_ | refine ⟨fun c1 => absurd c1 (by decide), fun _ => ?_⟩ | refine ⟨fun _ => ?_, fun c1 => absurd c1 (by decide)⟩ | refine ⟨am_vin rfl, ?_⟩ | refine ⟨fun c1 => ?_, fun c1 => ?_⟩ | refine ⟨Or.inr rfl, ?_⟩ | refine ⟨Or.inl rfl, ?_⟩ | fail); all_goals (try dsimp only at *))
          exact h2 v w hI
      · ((repeat' first | refine hP2 _ ?_ | refine ⟨fun c1 => absurd c1 (by decide), fun _ => ?_⟩ | refine ⟨fun _ => ?_, fun c1 => absurd c1 (by decide)⟩ | refine ⟨am_vin rfl, ?_⟩ | refine ⟨fun c1 => ?_, fun c1 => ?_⟩ | refine ⟨Or.inr rfl, ?_⟩ | refine ⟨Or.inl rfl, ?_⟩ | fail); all_goals (try dsimp only at *))
        exact h2 v w hI
    · ((repeat' first | refine hP2 _ ?_ | refine ⟨fun c1 => absurd c1 (by decide), fun _ => ?_⟩ | refine ⟨fun _ => ?_, fun c1 => absurd c1 (by decide)⟩ | refine ⟨am_vin rfl, ?_⟩ | refine ⟨fun c1 => ?_, fun c1 => ?_⟩ | refine ⟨Or.inr rfl, ?_⟩ | refine ⟨Or.inl rfl, ?_⟩ | fail); all_goals (try dsimp only at *))
      exact h2 v w hI
  ((repeat' first | refine hP _ ?_ | fail); try dsimp only)
  refine m_X11_outside (fun q => ?_) (fun a1 a2 => ?_)
  · ((repeat' first | refine hP _ ?_ | refine ⟨fun c1 => absurd c1 (by decide), fun _ => ?_⟩ | refine ⟨fun _ => ?_, fun c1 => absurd c1 (by decide)⟩ | refine ⟨am_vin rfl, ?_⟩ | refine ⟨fun c1 => ?_, fun c1 => ?_⟩ | refine ⟨Or.inr rfl, ?_⟩ | refine ⟨Or.inl rfl, ?_⟩ | fail); all_goals (try dsimp only at *))
    exact h (-1) v w (fun Q2 h2 => hR h2 (Or.inl q))
  ((repeat' first | refine hP _ ?_ | fail); try dsimp only)
  refine ⟨fun e => absurd rfl e, fun _ => ?_⟩
  ((repeat' first | refine hP _ ?_ | fail); try dsimp only)
  refine m_X11_outside (fun q => ?_) (fun b1 b2 => ?_)
  · ((repeat' first | refine hP _ ?_ | refine ⟨fun c1 => absurd c1 (by decide), fun _ => ?_⟩ | refine ⟨fun _ => ?_, fun c1 => absurd c1 (by decide)⟩ | refine ⟨am_vin rfl, ?_⟩ | refine ⟨fun c1 => ?_, fun c1 => ?_⟩ | refine ⟨Or.inr rfl, ?_⟩ | refine ⟨Or.inl rfl, ?_⟩ | fail); all_goals (try dsimp only at *))
    exact h (-1) v w (fun Q2 h2 => hR h2 (Or.inr (Or.inl q)))
  ((repeat' first | refine hP _ ?_ | fail); try dsimp only)
  refine ⟨fun e => absurd rfl e, fun _ => ?_⟩
  ((repeat' first | refine hP _ ?_ | fail); try dsimp only)
  refine m_X11_outside (fun q => ?_) (fun c1 c2 => ?_)
  · ((repeat' first | refine hP _ ?_ | refine ⟨fun c1 => absurd c1 (by decide), fun _ => ?_⟩ | refine ⟨fun _ => ?_, fun c1 => absurd c1 (by decide)⟩ | refine ⟨am_vin rfl, ?_⟩ | refine ⟨fun c1 => ?_, fun c1 => ?_⟩ | refine ⟨Or.inr rfl, ?_⟩ | refine ⟨Or.inl rfl, ?_⟩ | fail); all_goals (try dsimp only at *))
    exact h (-1) v w (fun Q2 h2 => hR h2 (Or.inr (Or.inr (Or.inl q))))
  ((repeat' first | refine hP _ ?_ | fail); try dsimp only)
  refine ⟨fun e => absurd rfl e, fun _ => ?_⟩
  ((repeat' first | refine hP _ ?_ | fail); try dsimp only)
  refine ⟨fun e => absurd e (by decide), fun _ => ?_⟩
  obtain ⟨n, hn1, hn, rfl⟩ := am_nat1 a1 a2 (n := 10) rfl
  obtain ⟨m, hm1, hm, rfl⟩ := am_nat1 b1 b2 (n := 10) rfl
  have enm : nI n + nI m = nI (n + m) := nI_add n m
  ((repeat' first | refine hP _ ?_ | fail); try dsimp only)
  rw [enm]
  refine m_X8_has (fun q => ?_) (fun q => ?_)
  · rw [htn1] at q
    have hle : n + m ≤ tn := (nI_leI (by omega) (by omega)).mp q
    ((repeat' first | refine hP _ ?_ | fail); try dsimp only)
    refine ⟨fun _ => ?_, fun e => absurd e (by decide)⟩
    -- the reference up to its loop over the bytes
    have hr0 : ∀ {Q2 : Option Value → am_H → Prop} {v1 : am_V} {P2 : am_C → Prop}, (∀ q, am_step (am_kc L xs) am_idx (am_run (am_kc L xs) am_idx am_m (d + 49)) cd_X12_titles 0 0 Q2 P2 q → P2 q) → v1 62 6 = nI tn → (∀ j, j < n + m → v1 66 j &&& 255 = v 2 j) → ((∀ j, j < n + m → 1 ≤ v 2 j ∧ v 2 j ≤ 20) → P2 (cd_X12_titles.drop 46, [some (.ref 62), some (.int (nI n)), some (.int (nI m)), some (.int c), some (.int 0), none, none], [], (am_sh, am_up v1 62 6 0, w), 0, 0)) → (∀ j, j < n + m → (v 2 j < 1 ∨ 20 < v 2 j) → Q2 (some (.int (-2))) (am_sh, am_up v1 62 6 0, w)) → P2 (cd_X12_titles, am_ent 7 [Value.ref 62, Value.int (nI n), Value.int (nI m), Value.int c], [], (am_sh, v1, w), 0, 0) := by
      intro Q2 v1 P2 hP2 g6 g66 k1 k2
      have u66 : ∀ j, am_up v1 62 6 0 66 j = v1 66 j := fun j => by simp [am_up_eq]
      have lp : ∀ (k i : Nat), i + k = n + m → (∀ j, j < i → 1 ≤ v 2 j ∧ v 2 j ≤ 20) → P2 (cd_X12_titles.drop 28, [some (.ref 62), some (.int (nI n)), some (.int (nI m)), some (.int c), some (.int (nI i)), none, none], [], (am_sh, am_up v1 62 6 0, w), 0, 0) := by
        intro k
        induction k with
        | zero =>
          intro i hi hh
          have e := k1 (fun j hj => hh j (by omega))
          ((repeat' first | refine hP2 _ ?_ | fail); try dsimp only)
          rw [enm]
          refine ⟨fun _ => ?_, fun z => absurd (nI_le (show n + m ≤ i by omega) (by omega)) z⟩
          ((iterate 2 refine hP2 _ ?_); try dsimp only)
          exact e
        | succ k ih =>
          intro i hi hh
          ((repeat' first | refine hP2 _ ?_ | fail); try dsimp only)
          rw [enm]
          refine ⟨fun z => absurd z (nI_ge (by omega) (by omega)), fun _ => ?_⟩
          ((repeat' first | refine hP2 _ ?_ | fail); try dsimp only)
          refine m_X12_octet (by omega) ?_
          rw [u66, g66 i (by omega)]
          ((repeat' first | refine hP2 _ ?_ | fail); try dsimp only)
          refine m_X12_in (fun z1 z2 => ?_) (fun z => ?_)
          · have e := ih (i + 1) (by omega) (fun j hj => by
              rcases Nat.lt_or_ge j i with y | y
              · exact hh j y
              · rw [show j = i by omega]
                exact ⟨z1, z2⟩)
            rw [← nI_1] at e
            ((repeat' first | refine hP2 _ ?_ | fail); try dsimp only)
            refine ⟨fun _ => ?_, fun e => absurd e (by decide)⟩
            ((iterate 2 refine hP2 _ ?_); try dsimp only)
            exact e
          · ((repeat' first | refine hP2 _ ?_ | fail); try dsimp only)
            refine ⟨fun e => absurd rfl e, fun _ => ?_⟩
            ((repeat' first | refine hP2 _ ?_ | fail); try dsimp only)
            exact k2 i (by omega) z
      ((repeat' first | refine hP2 _ ?_ | fail); try dsimp only)
      refine m_X12_in1 a1 a2 ?_
      ((repeat' first | refine hP2 _ ?_ | fail); try dsimp only)
      refine ⟨fun e => absurd e (by decide), fun _ => ?_⟩
      ((repeat' first | refine hP2 _ ?_ | fail); try dsimp only)
      refine m_X12_in1 b1 b2 ?_
      ((repeat' first | refine hP2 _ ?_ | fail); try dsimp only)
      refine ⟨fun e => absurd e (by decide), fun _ => ?_⟩
      ((repeat' first | refine hP2 _ ?_ | fail); try dsimp only)
      refine m_X12_in1 c1 c2 ?_
      ((repeat' first | refine hP2 _ ?_ | fail); try dsimp only)
      refine ⟨fun e => absurd e (by decide), fun _ => ?_⟩
      ((repeat' first | refine hP2 _ ?_ | fail); try dsimp only)
      rw [enm, g6]
      refine ⟨fun _ => ?_, fun z => absurd q z⟩
      ((iterate 5 refine hP2 _ ?_); try dsimp only)
      exact lp (n + m) 0 (by omega) (fun j hj => absurd hj (by omega))
    ((repeat' first | refine hP _ ?_ | fail); try dsimp only)
    rw [enm]
    refine m_allWithin htn1 htn hle (fun hall => ?_) (fun j0 hj0 hbad => ?_)
    · ((repeat' first | refine hP _ ?_ | fail); try dsimp only)
      refine ⟨fun e => absurd e (by decide), fun _ => ?_⟩
      have hmk : ∃ t : Nat → Nat, (∀ j, 1 ≤ t j ∧ t j ≤ 255) ∧ ∀ j, j < n + m → v 2 j = nI (t j) := by
        refine ⟨fun j => if j < n + m then tpN v j else 1, fun j => ?_, fun j hj => ?_⟩
        · by_cases hj : j < n + m
          · have e1 := (hby j (by omega)).trans (tpN_eq v j)
            have e2 := (hall j hj).1
            have e3 := tpN_lt v j
            rw [e1] at e2
            have e4 := (nI_leI (a := 1) (by omega) (by omega)).mp e2
            simp only [hj, if_true]
            omega
          · simp [hj]
        · simp only [hj, if_true]
          exact (hby j (by omega)).trans (tpN_eq v j)
      obtain ⟨t, ht, htv⟩ := hmk
      obtain ⟨B, cc, hc1, hc2, hcB, hB1, hB2⟩ := dpT_rel (a := t) (b := fun j => t (n + j)) (fun i => (ht i).1) (fun j => (ht (n + j)).1) (n + m) n m rfl hn hm
      ((repeat' first | refine hP _ ?_ | fail); try dsimp only)
      refine m_readTitles ⟨hn1, hn⟩ ⟨hm1, hm⟩ htn1 htn hle ht htv hB1 (by omega) hcB (fun v1 hv1 => ?_)
      ((repeat' first | refine hP _ ?_ | fail); try dsimp only)
      refine m_X8_clear ?_
      ((repeat' first | refine hP _ ?_ | fail); try dsimp only)
      refine ⟨fun _ => ?_, fun e => absurd e (by decide)⟩
      have hb := am_01 c1 c2
      have fin : Q (some (.int (if c = 0 then nI B else nI cc))) (am_sh, am_up (am_up (am_up v1 43 8 (nI B)) 43 9 (nI cc)) 1 1 0, w) := by
        refine h _ _ w (fun Q2 h2 => ?_)
        refine en_X12_titles rfl ?_
        intro P2 hP2
        refine hr0 hP2 (by simp [am_up_eq]; rw [hv1 62 (by omega)]; exact htn2) (fun j hj => by simp [am_up_eq]; rw [hv1 66 (by omega)]; exact (hby j (by omega)).symm) (fun _ => ?_) (fun j hj z => (am_no z (hall j hj).1 (hall j hj).2).elim)
        refine lp_titles2 (t := t) ⟨hn1, hn⟩ ⟨hm1, hm⟩ ht (fun j hj => by simp [am_up_eq]; rw [hv1 66 (by omega), ← hby j (by omega)]; exact htv j hj) hB2 (by omega) hcB hP2 (fun v2 hv2 => ?_)
        refine h2 _ w (hI.clr (fun k hk => ?_) (fun j hj => ?_) ?_ ?_)
        · obtain ⟨y1, y2, y3, y4, y5⟩ := iv_imp_48 k hk
          rw [hv2 k y2, am_up_ne _ _ _ y3, am_up_ne _ _ _ y4, am_up_ne _ _ _ y5, am_up_ne _ _ _ y5, hv1 k y1]
        · have : j ≠ 6 := by
            intro z; rw [z] at hj; revert hj; decide
          rw [hv2 62 (by omega)]
          simp [am_up_eq, this]
          rw [hv1 62 (by omega)]
        · rw [hv2 1 (by omega)]
          simp [am_up_eq]
        · rw [hv2 62 (by omega)]
          simp [am_up_eq]
      rcases hb with rfl | rfl
      · ((repeat' first | refine hP _ ?_ | refine ⟨fun c1 => absurd c1 (by decide), fun _ => ?_⟩ | refine ⟨fun _ => ?_, fun c1 => absurd c1 (by decide)⟩ | refine ⟨am_vin rfl, ?_⟩ | refine ⟨fun c1 => ?_, fun c1 => ?_⟩ | refine ⟨Or.inr rfl, ?_⟩ | refine ⟨Or.inl rfl, ?_⟩ | fail); all_goals (try dsimp only at *))
        refine am_qr ?_ rfl fin
        rw [if_pos rfl]
        simp [am_up_eq]
      · ((repeat' first | refine hP _ ?_ | refine ⟨fun c1 => absurd c1 (by decide), fun _ => ?_⟩ | refine ⟨fun _ => ?_, fun c1 => absurd c1 (by decide)⟩ | refine ⟨am_vin rfl, ?_⟩ | refine ⟨fun c1 => ?_, fun c1 => ?_⟩ | refine ⟨Or.inr rfl, ?_⟩ | refine ⟨Or.inl rfl, ?_⟩ | fail); all_goals (try dsimp only at *))
        refine am_qr ?_ rfl fin
        rw [if_neg (by decide)]
        simp [am_up_eq]
    · ((repeat' first | refine hP _ ?_ | fail); try dsimp only)
      refine ⟨fun _ => ?_, fun e => absurd rfl e⟩
      ((repeat' first | refine hP _ ?_ | fail); try dsimp only)
      refine m_X8_clear ?_
      ((repeat' first | refine hP _ ?_ | fail); try dsimp only)
      refine ⟨fun e => absurd rfl e, fun _ => ?_⟩
      ((repeat' first | refine hP _ ?_ | fail); try dsimp only)
      refine h (-2) _ w (fun Q2 h2 => ?_)
      refine en_X12_titles rfl ?_
      intro P2 hP2
      have fin2 : INV (am_up (am_up v 1 1 0) 62 6 0) := by
        refine hI.clr (fun k hk => ?_) (fun j hj => ?_) ?_ ?_
        · have : k ≠ 62 ∧ k ≠ 1 := by
            refine ⟨?_, ?_⟩ <;> (intro z; rw [z] at hk; revert hk; decide)
          rw [am_up_ne _ _ _ this.1, am_up_ne _ _ _ this.2]
        · have : j ≠ 6 := by
            intro z; rw [z] at hj; revert hj; decide
          simp [am_up_eq, this]
        · simp [am_up_eq]
        · simp [am_up_eq]
      refine hr0 hP2 (by simp [am_up_eq]; exact htn2) (fun j hj => by simp [am_up_eq]; exact (hby j (by omega)).symm) (fun hall => (am_no hbad (hall j0 hj0).1 (hall j0 hj0).2).elim) (fun j hj z => h2 _ w fin2)
  · rw [htn1] at q
    ((repeat' first | refine hP _ ?_ | refine ⟨fun c1 => absurd c1 (by decide), fun _ => ?_⟩ | refine ⟨fun _ => ?_, fun c1 => absurd c1 (by decide)⟩ | refine ⟨am_vin rfl, ?_⟩ | refine ⟨fun c1 => ?_, fun c1 => ?_⟩ | refine ⟨Or.inr rfl, ?_⟩ | refine ⟨Or.inl rfl, ?_⟩ | fail); all_goals (try dsimp only at *))
    exact h (-1) v w (fun Q2 h2 => hR h2 (Or.inr (Or.inr (Or.inr (by rw [enm]; exact Int32.not_le.mpr q)))))
