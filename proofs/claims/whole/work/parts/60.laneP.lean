/-! ===== pair: lane ===== -/
theorem iv_imp_ln : ∀ k, k ∈ iv_impL → k ≠ 39 ∧ k ≠ 40 ∧ k ≠ 41 ∧ k ≠ 42 ∧ k ≠ 1 ∧ k ≠ 62 ∧ k ≠ 95 ∧ k ≠ 96 ∧ k ≠ 97 ∧ k ≠ 98 ∧ k ≠ 99 := by decide
set_option maxRecDepth 100000 in
set_option maxHeartbeats 4000000 in
theorem lp_lane2 {L : Nat} {xs : Nat → Int32} {d n : Nat} {v : am_V} {w : am_X} {b : Int32} {Q : Option Value → am_H → Prop} {P : am_C → Prop} {t : Nat → Nat} (hn : 2 ≤ n ∧ n ≤ 9) (ht : ∀ j, t j < 256) (hv : ∀ j, j < n → v 66 j &&& 255 = nI (t j)) (hP : ∀ c, am_step (am_kc L xs) am_idx (am_run (am_kc L xs) am_idx am_m (d + 4)) cd_X12_lane 0 0 Q P c → P c) (h0 : ∀ (v' : am_V) (j : Nat), j < n → (∀ i, i < j → lnOk (t i) = true) → lnOk (t j) = false → (∀ k, k ≠ 62 → k ≠ 98 → v' k = v k) → (∀ j, j ≠ 6 → v' 62 j = v 62 j) → v' 62 6 = 0 → Q (some (.int (-1000 - nI j))) (am_sh, v', w)) (h1 : ∀ (v' : am_V) (l4 l5 : Option Value), (∀ j, j < n → lnOk (t j) = true) → (∀ i, i ≤ n → v' 98 i = nI (3 ^ i)) → (∀ k, k ≠ 62 → k ≠ 98 → v' k = v k) → (∀ j, j ≠ 6 → v' 62 j = v 62 j) → v' 62 6 = 0 → P (cd_X12_lane.drop 81, [some (.ref 62), some (.int (nI n)), some (.int b), some (.int (nI (lnS lnPk (fun i => lnV (t i)) n))), l4, l5], [], (am_sh, v', w), 0, 0)) : P (cd_X12_lane.drop 16, am_ent 6 [Value.ref 62, Value.int (nI n), Value.int b], [], (am_sh, v, w), 0, 0) := by
  have key : ∀ (k i : Nat) (u : am_V) (l5 : Option Value), i + k = n → (∀ j, j < i → lnOk (t j) = true) → (∀ j, j ≤ i → u 98 j = nI (3 ^ j)) → (∀ k, k ≠ 62 → k ≠ 98 → u k = v k) → (∀ j, j ≠ 6 → u 62 j = v 62 j) → u 62 6 = 0 → P (cd_X12_lane.drop 28, [some (.ref 62), some (.int (nI n)), some (.int b), some (.int (nI (lnS lnPk (fun i => lnV (t i)) i))), some (.int (nI i)), l5], [], (am_sh, u, w), 0, 0) := by
    intro k
    induction k with
    | zero =>
      intro i u l5 hi hok hpw hf hf2 h6
      have hin : i = n := by omega
      subst hin
      ((repeat' first | refine hP _ ?_ | fail); try dsimp only)
      refine ⟨fun _ => ?_, fun z => absurd (Int32.le_refl _) z⟩
      exact h1 u _ _ hok hpw hf hf2 h6
    | succ k ih =>
      intro i u l5 hi hok hpw hf hf2 h6
      have hti := ht i
      ((repeat' first | refine hP _ ?_ | fail); try dsimp only)
      refine ⟨fun z => absurd z (nI_ge (by omega) (by omega)), fun _ => ?_⟩
      ((repeat' first | refine hP _ ?_ | fail); try dsimp only)
      refine m_X12_octet (by omega) ?_
      rw [show u 66 i &&& 255 = nI (t i) by rw [hf 66 (by decide) (by decide)]; exact hv i (by omega)]
      -- a good one
      have e0 := ih (i + 1) (am_up u 98 (i + 1) (nI (3 ^ (i + 1)))) (some (.int (nI (t i)))) (by omega)
      have nx : lnOk (t i) = true → P (cd_X12_lane.drop 64, [some (.ref 62), some (.int (nI n)), some (.int b), some (.int (nI (lnS lnPk (fun i => lnV (t i)) i))), some (.int (nI i)), some (.int (nI (t i)))], [.int (nI (lnV (t i))), .int (nI (3 ^ i)), .int (nI (lnS lnPk (fun i => lnV (t i)) i))], (am_sh, u, w), 0, 0) := by
        intro hk
        have e := e0 (fun j hj => by
          by_cases q : j = i
          · rw [q]; exact hk
          · exact hok j (by omega)) (fun j hj => by
          rw [am_up_eq]
          by_cases q : j = i + 1
          · rw [if_pos ⟨rfl, q⟩, q]
          · rw [if_neg (fun z => q z.2)]
            exact hpw j (by omega)) (fun k a b => by rw [am_up_ne _ _ _ b]; exact hf k a b) (fun j hj => by rw [am_up_ne _ _ _ (by decide)]; exact hf2 j hj) (by rw [am_up_ne _ _ _ (by decide)]; exact h6)
        have es : lnS lnPk (fun i => lnV (t i)) (i + 1) = lnS lnPk (fun i => lnV (t i)) i + 3 ^ i * lnV (t i) := by
          show _ + lnV (t i) * 3 ^ i = _
          rw [Nat.mul_comm]
        rw [← nI_1, es, ← nI_add, ← pk_mul, show 3 ^ (i + 1) = 3 * 3 ^ i by rw [Nat.pow_succ, Nat.mul_comm]] at e
        ((repeat' first | refine hP _ ?_ | fail); try dsimp only)
        refine ⟨vp_in_nI (by omega) (by omega), ?_⟩
        ((repeat' first | refine hP _ ?_ | fail); try dsimp only)
        rw [nI_1]
        refine ⟨vp_in_nI (by omega) (by omega), ?_⟩
        dsimp only
        rw [nI_clamp (by omega), nI_clamp (by omega), hpw i (Nat.le_refl _), show (3 : Int32) * nI (3 ^ i) = nI (3 * 3 ^ i) from pk_mul 3 _]
        ((iterate 2 refine hP _ ?_); try dsimp only)
        exact e
      have good : lnOk (t i) = true → P (cd_X12_lane.drop 48, [some (.ref 62), some (.int (nI n)), some (.int b), some (.int (nI (lnS lnPk (fun i => lnV (t i)) i))), some (.int (nI i)), some (.int (nI (t i)))], [], (am_sh, u, w), 0, 0) := by
        intro hk
        have e := nx hk
        unfold lnV at e
        ((repeat' first | refine hP _ ?_ | fail); try dsimp only)
        refine ⟨vp_in_nI (by omega) (by omega), ?_⟩
        ((repeat' first | refine hP _ ?_ | fail); try dsimp only)
        rw [nI_clamp (by omega), hpw i (Nat.le_refl _)]
        refine ⟨fun c => ?_, fun c => ?_⟩
        · rw [if_neg (fun z => c (by rw [z]; rfl))] at e
          ((repeat' first | refine hP _ ?_ | fail); try dsimp only)
          refine ⟨fun c => ?_, fun c => ?_⟩
          · rw [if_neg (fun z => c (by rw [z]; rfl))] at e
            ((iterate 1 refine hP _ ?_); try dsimp only)
            exact e
          · rw [if_pos ((nI_eq (b := 60) (by omega) (by omega)).mp c)] at e
            ((iterate 2 refine hP _ ?_); try dsimp only)
            exact e
        · rw [if_pos ((nI_eq (b := 62) (by omega) (by omega)).mp c)] at e
          ((iterate 2 refine hP _ ?_); try dsimp only)
          exact e
      ((repeat' first | refine hP _ ?_ | fail); try dsimp only)
      refine ⟨fun c => ?_, fun c1 => ?_⟩
      · have q : t i = 62 := (nI_eq (b := 62) (by omega) (by omega)).mp c
        exact good (by rw [q]; rfl)
      · ((repeat' first | refine hP _ ?_ | fail); try dsimp only)
        refine ⟨fun c => ?_, fun c2 => ?_⟩
        · have q : t i = 60 := (nI_eq (b := 60) (by omega) (by omega)).mp c
          exact good (by rw [q]; rfl)
        · ((repeat' first | refine hP _ ?_ | fail); try dsimp only)
          refine ⟨fun c => ?_, fun c3 => ?_⟩
          · have q : t i = 46 := (nI_eq (b := 46) (by omega) (by omega)).mp c
            exact good (by rw [q]; rfl)
          · ((repeat' first | refine hP _ ?_ | fail); try dsimp only)
            refine h0 u i (by omega) hok ?_ hf hf2 h6
            unfold lnOk
            rw [am_bne (fun z => c1 (by rw [z]; rfl)), am_bne (fun z => c2 (by rw [z]; rfl)), am_bne (fun z => c3 (by rw [z]; rfl))]
            rfl
  ((repeat' first | refine hP _ ?_ | fail); try dsimp only)
  refine ⟨am_vin rfl, ?_⟩
  dsimp only
  rw [show Int32.toNatClampNeg 0 = 0 from rfl]
  have e := key n 0 (am_up (am_up v 62 6 0) 98 0 1) none (by omega) (fun j hj => absurd hj (by omega)) (fun j hj => by
    rw [show j = 0 by omega, am_up_eq, if_pos ⟨rfl, rfl⟩]
    rfl) (fun k a b => by rw [am_up_ne _ _ _ b, am_up_ne _ _ _ a]) (fun j hj => by rw [am_up_ne _ _ _ (by decide), am_up_eq, if_neg (fun z => hj z.2)]) (by rw [am_up_ne _ _ _ (by decide), am_up_eq, if_pos ⟨rfl, rfl⟩])
  ((iterate 4 refine hP _ ?_); try dsimp only)
  exact e
set_option maxRecDepth 100000 in
set_option maxHeartbeats 4000000 in
theorem pr_lane {L : Nat} {xs : Nat → Int32} (a b : Int32) : am_pair L xs 118 213 [.int a, .int b] := by
  intro d v w Q hI h
  obtain ⟨n, hn, hn1, hn2, hby⟩ := hI.2.2.2.1
  refine en_X11_lane rfl ?_
  intro P hP
  ((repeat' first | refine hP _ ?_ | fail); try dsimp only)
  refine m_X11_outside (fun c => ?_) (fun c1 c2 => ?_)
  · ((repeat' first | refine hP _ ?_ | refine ⟨fun c1 => absurd c1 (by decide), fun _ => ?_⟩ | refine ⟨fun _ => ?_, fun c1 => absurd c1 (by decide)⟩ | refine ⟨am_vin rfl, ?_⟩ | refine ⟨fun c1 => ?_, fun c1 => ?_⟩ | refine ⟨Or.inr rfl, ?_⟩ | refine ⟨Or.inl rfl, ?_⟩ | fail); all_goals (try dsimp only at *))
    refine h (-1) v w (fun Q2 h2 => ?_)
    refine en_X12_lane rfl ?_
    intro P2 hP2
    ((repeat' first | refine hP2 _ ?_ | fail); try dsimp only)
    refine m_X12_in0 c ?_
    ((repeat' first | refine hP2 _ ?_ | refine ⟨fun c1 => absurd c1 (by decide), fun _ => ?_⟩ | refine ⟨fun _ => ?_, fun c1 => absurd c1 (by decide)⟩ | refine ⟨am_vin rfl, ?_⟩ | refine ⟨fun c1 => ?_, fun c1 => ?_⟩ | refine ⟨Or.inr rfl, ?_⟩ | refine ⟨Or.inl rfl, ?_⟩ | fail); all_goals (try dsimp only at *))
    exact h2 v w hI
  · ((repeat' first | refine hP _ ?_ | fail); try dsimp only)
    refine ⟨fun e => absurd rfl e, fun _ => ?_⟩
    ((repeat' first | refine hP _ ?_ | fail); try dsimp only)
    refine m_X11_outside (fun e => ?_) (fun e1 e2 => ?_)
    · ((repeat' first | refine hP _ ?_ | refine ⟨fun c1 => absurd c1 (by decide), fun _ => ?_⟩ | refine ⟨fun _ => ?_, fun c1 => absurd c1 (by decide)⟩ | refine ⟨am_vin rfl, ?_⟩ | refine ⟨fun c1 => ?_, fun c1 => ?_⟩ | refine ⟨Or.inr rfl, ?_⟩ | refine ⟨Or.inl rfl, ?_⟩ | fail); all_goals (try dsimp only at *))
      refine h (-1) v w (fun Q2 h2 => ?_)
      refine en_X12_lane rfl ?_
      intro P2 hP2
      ((repeat' first | refine hP2 _ ?_ | fail); try dsimp only)
      refine m_X12_in1 c1 c2 ?_
      ((repeat' first | refine hP2 _ ?_ | fail); try dsimp only)
      refine ⟨fun e => absurd e (by decide), fun _ => ?_⟩
      ((repeat' first | refine hP2 _ ?_ | fail); try dsimp only)
      refine m_X12_in0 e ?_
      ((repeat' first | refine hP2 _ ?_ | refine ⟨fun c1 => absurd c1 (by decide), fun _ => ?_⟩ | refine ⟨fun _ => ?_, fun c1 => absurd c1 (by decide)⟩ | refine ⟨am_vin rfl, ?_⟩ | refine ⟨fun c1 => ?_, fun c1 => ?_⟩ | refine ⟨Or.inr rfl, ?_⟩ | refine ⟨Or.inl rfl, ?_⟩ | fail); all_goals (try dsimp only at *))
      exact h2 v w hI
    · have hb := am_01 e1 e2
      obtain ⟨N, hN, rfl⟩ := am_nat (Int32.le_trans (by decide) c1) c2 (n := 9) rfl
      have hN1 : 2 ≤ N := (nI_leI (a := 2) (by omega) (by omega)).mp c1
      ((repeat' first | refine hP _ ?_ | fail); try dsimp only)
      refine ⟨fun e => absurd rfl e, fun _ => ?_⟩
      ((repeat' first | refine hP _ ?_ | fail); try dsimp only)
      have hr0 : ∀ {Q2 : Option Value → am_H → Prop} {v1 : am_V} {P2 : am_C → Prop}, (∀ q, am_step (am_kc L xs) am_idx (am_run (am_kc L xs) am_idx am_m (d + 49)) cd_X12_lane 0 0 Q2 P2 q → P2 q) → v1 62 6 = nI n → (nI (N) ≤ nI n → P2 (cd_X12_lane.drop 16, am_ent 6 [Value.ref 62, Value.int (nI N), Value.int b], [], (am_sh, v1, w), 0, 0)) → (¬ nI (N) ≤ nI n → Q2 (some (.int (-1))) (am_sh, v1, w)) → P2 (cd_X12_lane, am_ent 6 [Value.ref 62, Value.int (nI N), Value.int b], [], (am_sh, v1, w), 0, 0) := by
        intro Q2 v1 P2 hP2 g6 k1 k2
        ((repeat' first | refine hP2 _ ?_ | fail); try dsimp only)
        refine m_X12_in1 c1 c2 ?_
        ((repeat' first | refine hP2 _ ?_ | fail); try dsimp only)
        refine ⟨fun e => absurd e (by decide), fun _ => ?_⟩
        ((repeat' first | refine hP2 _ ?_ | fail); try dsimp only)
        refine m_X12_in1 e1 e2 ?_
        ((repeat' first | refine hP2 _ ?_ | fail); try dsimp only)
        refine ⟨fun e => absurd e (by decide), fun _ => ?_⟩
        ((repeat' first | refine hP2 _ ?_ | fail); try dsimp only)
        rw [g6]
        refine ⟨fun q => k1 q, fun q => ?_⟩
        ((repeat' first | refine hP2 _ ?_ | fail); try dsimp only)
        exact k2 q
      refine m_X8_has (fun q => ?_) (fun q => ?_)
      · rw [hn1] at q
        have hle : N ≤ n := (nI_leI (by omega) (by omega)).mp q
        ((repeat' first | refine hP _ ?_ | fail); try dsimp only)
        refine ⟨fun _ => ?_, fun e => absurd e (by decide)⟩
        ((repeat' first | refine hP _ ?_ | fail); try dsimp only)
        have hclr : ∀ (v1 v2 : am_V), (∀ k, k ≠ 39 → k ≠ 40 → k ≠ 41 → k ≠ 42 → k ≠ 1 → v1 k = v k) → v1 1 1 = 0 → (∀ k, k ≠ 62 → k ≠ 98 → k ≠ 95 → k ≠ 96 → k ≠ 97 → k ≠ 99 → v2 k = v1 k) → (∀ j, j ≠ 6 → v2 62 j = v1 62 j) → v2 62 6 = 0 → INV v2 := by
          intro v1 v2 f1 f11 f2 f62 f6
          refine hI.clr (fun k hk => ?_) (fun j hj => ?_) ?_ f6
          · obtain ⟨y1, y2, y3, y4, y5, y6, y7, y8, y9, y10, y11⟩ := iv_imp_ln k hk
            rw [f2 k y6 y10 y7 y8 y9 y11, f1 k y1 y2 y3 y4 y5]
          · have : j ≠ 6 := by
              intro z; rw [z] at hj; revert hj; decide
            rw [f62 j this, f1 62 (by decide) (by decide) (by decide) (by decide) (by decide)]
          · rw [f2 1 (by decide) (by decide) (by decide) (by decide) (by decide) (by decide)]
            exact f11
        refine m_readFrom (t := tpN v) hN (tpN_lt v) hn1 hn hle (fun j hj => (hby j hj).trans (tpN_eq v j)) (fun v1 hok g3 grow hfr => ?_) (fun v1 j0 hj0 hok hbad hfr => ?_)
        · ((repeat' first | refine hP _ ?_ | fail); try dsimp only)
          refine m_X8_clear ?_
          ((repeat' first | refine hP _ ?_ | fail); try dsimp only)
          refine ⟨fun _ => ?_, fun z => absurd rfl z⟩
          ((repeat' first | refine hP _ ?_ | fail); try dsimp only)
          -- the reference, up to its end
          have ref : ∀ (v2 : am_V) (r : Int32), (∀ k, k ≠ 39 → k ≠ 40 → k ≠ 41 → k ≠ 42 → k ≠ 1 → v2 k = v k) → v2 1 1 = 0 → (bfRun N 1681 0 [(lnS lnPk (fun i => lnV (tpN v i)) N, 0, 15)] = none → r = -2) → (∀ lv fi, bfRun N 1681 0 [(lnS lnPk (fun i => lnV (tpN v i)) N, 0, 15)] = some (lv, fi) → r = if b = 0 then nI lv else fiI fi) → Q (some (.int r)) (am_sh, v2, w) := by
            intro v2 r f2 f21 hr1 hr2
            refine h r v2 w (fun Q2 h2 => ?_)
            refine en_X12_lane rfl ?_
            intro P2 hP2
            refine hr0 hP2 (by rw [f2 62 (by decide) (by decide) (by decide) (by decide) (by decide)]; exact hn2) (fun _ => ?_) (fun z => absurd q z)
            refine lp_lane2 (L := L) (xs := xs) (t := tpN v) ⟨hN1, hN⟩ (tpN_lt v) (fun j hj => by rw [f2 66 (by decide) (by decide) (by decide) (by decide) (by decide)]; exact tpN_eq v j) hP2 (fun v3 j hj hok2 hbad2 => ?_) (fun v3 l4 l5 _ hpw f3 f362 f36 => ?_)
            · rw [hok j hj] at hbad2
              cases hbad2
            · ((repeat' first | refine hP2 _ ?_ | fail); try dsimp only)
              refine m_searches (v := v3) (by omega) hN (lnP_lt N (fun i _ => lnV_lt _)) hpw (fun v4 hnone f4 => ?_) (fun v4 lv fi sb hsome hsb e96 e97 f4 => ?_)
              · ((repeat' first | refine hP2 _ ?_ | fail); try dsimp only)
                refine ⟨fun z => absurd rfl z, fun _ => ?_⟩
                ((repeat' first | refine hP2 _ ?_ | fail); try dsimp only)
                rw [← hr1 hnone]
                refine h2 v4 w (hclr v2 v4 f2 f21 (fun k a b c e f g => by rw [f4 k c e f g, f3 k a b]) (fun j hj => by rw [f4 62 (by decide) (by decide) (by decide) (by decide)]; exact f362 j hj) (by rw [f4 62 (by decide) (by decide) (by decide) (by decide)]; exact f36))
              · have hp := p3_le hN
                have hI4 : INV v4 := hclr v2 v4 f2 f21 (fun k a b c e f g => by rw [f4 k c e f g, f3 k a b]) (fun j hj => by rw [f4 62 (by decide) (by decide) (by decide) (by decide)]; exact f362 j hj) (by rw [f4 62 (by decide) (by decide) (by decide) (by decide)]; exact f36)
                have hr := hr2 lv fi hsome
                ((repeat' first | refine hP2 _ ?_ | fail); try dsimp only)
                refine ⟨fun _ => ?_, fun z => absurd z (cu_m1 (by omega)).1⟩
                ((repeat' first | refine hP2 _ ?_ | fail); try dsimp only)
                rcases hb with rfl | rfl
                · refine ⟨fun z => absurd rfl z, fun _ => ?_⟩
                  ((repeat' first | refine hP2 _ ?_ | fail); try dsimp only)
                  refine ⟨vp_in_nI (by omega) (by omega), ?_⟩
                  ((repeat' first | refine hP2 _ ?_ | fail); try dsimp only)
                  rw [nI_clamp (by omega), e96]
                  rw [if_pos rfl] at hr
                  rw [← hr]
                  exact h2 v4 w hI4
                · refine ⟨fun _ => ?_, fun z => absurd z (by decide)⟩
                  ((repeat' first | refine hP2 _ ?_ | fail); try dsimp only)
                  refine ⟨vp_in_nI (by omega) (by omega), ?_⟩
                  ((repeat' first | refine hP2 _ ?_ | fail); try dsimp only)
                  rw [nI_clamp (by omega), e97]
                  rw [if_neg (by decide)] at hr
                  rw [← hr]
                  exact h2 v4 w hI4
          have f1 : ∀ k, k ≠ 39 → k ≠ 40 → k ≠ 41 → k ≠ 42 → k ≠ 1 → am_up v1 1 1 0 k = v k := fun k a _ _ e f => by rw [am_up_ne _ _ _ f, hfr k a e]
          refine m_canPass hN (fun i => lnV_lt (tpN v i)) (by rw [am_up_ne _ _ _ (by decide)]; exact g3) (fun i hi => by rw [am_up_ne _ _ _ (by decide)]; exact grow i hi) (fun v2 hnone f2 => ?_) (fun v2 lv fi hsome e5 e6 f2 => ?_)
          · ((repeat' first | refine hP _ ?_ | fail); try dsimp only)
            refine ⟨fun z => absurd rfl z, fun _ => ?_⟩
            ((repeat' first | refine hP _ ?_ | fail); try dsimp only)
            refine ref v2 (-2) (fun k a b c e f => by rw [f2 k a b c e, f1 k a b c e f]) (by rw [f2 1 (by decide) (by decide) (by decide) (by decide)]; simp [am_up_eq]) (fun _ => rfl) (fun lv fi z => ?_)
            rw [hnone] at z
            cases z
          · have fin : Q (some (.int (if b = 0 then nI lv else fiI fi))) (am_sh, v2, w) := by
              refine ref v2 _ (fun k a b c e f => by rw [f2 k a b c e, f1 k a b c e f]) (by rw [f2 1 (by decide) (by decide) (by decide) (by decide)]; simp [am_up_eq]) (fun z => ?_) (fun lv' fi' z => ?_)
              · rw [hsome] at z
                cases z
              · rw [hsome] at z
                cases z
                rfl
            ((repeat' first | refine hP _ ?_ | fail); try dsimp only)
            refine ⟨fun _ => ?_, fun z => absurd z (by decide)⟩
            ((repeat' first | refine hP _ ?_ | fail); try dsimp only)
            rcases hb with rfl | rfl
            · refine ⟨fun z => absurd rfl z, fun _ => ?_⟩
              ((repeat' first | refine hP _ ?_ | fail); try dsimp only)
              rw [e5]
              exact fin
            · refine ⟨fun _ => ?_, fun z => absurd z (by decide)⟩
              ((repeat' first | refine hP _ ?_ | fail); try dsimp only)
              rw [e6]
              exact fin
        · ((repeat' first | refine hP _ ?_ | fail); try dsimp only)
          refine m_X8_clear ?_
          ((repeat' first | refine hP _ ?_ | fail); try dsimp only)
          refine ⟨fun z => absurd z (cu_m1 (by omega)).1, fun _ => ?_⟩
          ((repeat' first | refine hP _ ?_ | fail); try dsimp only)
          have f1 : ∀ k, k ≠ 39 → k ≠ 40 → k ≠ 41 → k ≠ 42 → k ≠ 1 → am_up v1 1 1 0 k = v k := fun k a _ _ e f => by rw [am_up_ne _ _ _ f, hfr k a e]
          refine h _ _ w (fun Q2 h2 => ?_)
          refine en_X12_lane rfl ?_
          intro P2 hP2
          refine hr0 hP2 (by rw [f1 62 (by decide) (by decide) (by decide) (by decide) (by decide)]; exact hn2) (fun _ => ?_) (fun z => absurd q z)
          refine lp_lane2 (L := L) (xs := xs) (t := tpN v) ⟨hN1, hN⟩ (tpN_lt v) (fun j hj => by rw [f1 66 (by decide) (by decide) (by decide) (by decide) (by decide)]; exact tpN_eq v j) hP2 (fun v3 j hj hok2 hbad2 f3 f362 f36 => ?_) (fun v3 l4 l5 hall => ?_)
          · have hjj : j = j0 := by
              rcases Nat.lt_trichotomy j j0 with y | y | y
              · rw [hok j y] at hbad2
                cases hbad2
              · exact y
              · rw [hok2 j0 y] at hbad
                cases hbad
            rw [hjj]
            exact h2 v3 w (hclr _ v3 f1 (by simp [am_up_eq]) (fun k a b _ _ _ _ => f3 k a b) f362 f36)
          · rw [hall j0 hj0] at hbad
            cases hbad
      · rw [hn1] at q
        ((repeat' first | refine hP _ ?_ | refine ⟨fun c1 => absurd c1 (by decide), fun _ => ?_⟩ | refine ⟨fun _ => ?_, fun c1 => absurd c1 (by decide)⟩ | refine ⟨am_vin rfl, ?_⟩ | refine ⟨fun c1 => ?_, fun c1 => ?_⟩ | refine ⟨Or.inr rfl, ?_⟩ | refine ⟨Or.inl rfl, ?_⟩ | fail); all_goals (try dsimp only at *))
        refine h (-1) v w (fun Q2 h2 => ?_)
        refine en_X12_lane rfl ?_
        intro P2 hP2
        exact hr0 hP2 hn2 (fun z => absurd z (Int32.not_le.mpr q)) (fun _ => h2 v w hI)
