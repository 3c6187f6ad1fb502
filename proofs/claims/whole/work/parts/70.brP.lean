/-! ===== pair: breaths ===== -/
set_option maxRecDepth 100000 in
set_option maxHeartbeats 4000000 in
theorem pr_breaths {L : Nat} {xs : Nat → Int32} (a : Int32) : am_pair L xs 109 192 [.int a] := by
  intro d v w Q hI h
  refine en_X11_breaths rfl ?_
  intro P hP
  ((repeat' first | refine hP _ ?_ | fail); try dsimp only)
  refine m_X11_outside (fun c => ?_) (fun c1 c2 => ?_)
  · ((repeat' first | refine hP _ ?_ | refine ⟨fun c1 => absurd c1 (by decide), fun _ => ?_⟩ | refine ⟨fun _ => ?_, fun c1 => absurd c1 (by decide)⟩ | refine ⟨am_vin rfl, ?_⟩ | refine ⟨fun c1 => ?_, fun c1 => ?_⟩ | refine ⟨Or.inr rfl, ?_⟩ | refine ⟨Or.inl rfl, ?_⟩ | fail); all_goals (try dsimp only at *))
    refine h (-1) v w (fun Q2 h2 => ?_)
    refine en_X12_breaths rfl ?_
    intro P2 hP2
    ((repeat' first | refine hP2 _ ?_ | fail); try dsimp only)
    refine m_X12_in0 c ?_
    ((repeat' first | refine hP2 _ ?_ | refine ⟨fun c1 => absurd c1 (by decide), fun _ => ?_⟩ | refine ⟨fun _ => ?_, fun c1 => absurd c1 (by decide)⟩ | refine ⟨am_vin rfl, ?_⟩ | refine ⟨fun c1 => ?_, fun c1 => ?_⟩ | refine ⟨Or.inr rfl, ?_⟩ | refine ⟨Or.inl rfl, ?_⟩ | fail); all_goals (try dsimp only at *))
    exact h2 v w hI
  · obtain ⟨N, hN1, hN, rfl⟩ := am_nat1 c1 c2 (n := 240) rfl
    obtain ⟨us, z, hl⟩ := lw_is_iff.mp hI.2.2.2.2.1
    have hmi := hI.2.2.1
    obtain ⟨-, -, mi3, mi4, mi5, mi6⟩ := hmi
    have key : ∀ (m g : Nat) (r : Nat → Int32) (u : am_V), g + m = N → mt u 30 31 32 r → rg r → (∀ k, k ≠ 30 → k ≠ 31 → k ≠ 32 → k ≠ 8 → k ≠ 9 → u k = v k) → (∀ u' : am_V, (∀ k, k ≠ 30 → k ≠ 31 → k ≠ 32 → k ≠ 8 → k ≠ 9 → u' k = v k) → mt u' 30 31 32 (stN (bt us (v 62 3) (v 62 4)) m r) → Q (some (.int (acc (bt us (v 62 3) (v 62 4)) ac_1 m r (nI g)))) (am_sh, u', w)) → P (cd_X11_breaths.drop 9, [some (.ref 0), some (.int (nI N)), some (.int (nI g))], [], (am_sh, u, w), 0, 0) := by
      intro m
      induction m with
      | zero =>
        intro g r u hg hm hr hf h
        ((repeat' first | refine hP _ ?_ | fail); try dsimp only)
        refine ⟨fun _ => ?_, fun c => absurd (nI_le (a := N) (b := g) (by omega) (by omega)) c⟩
        ((repeat' first | refine hP _ ?_ | fail); try dsimp only)
        exact h u hf hm
      | succ m ih =>
        intro g r u hg hm hr hf h
        ((repeat' first | refine hP _ ?_ | fail); try dsimp only)
        refine ⟨fun c => absurd c (nI_ge (by omega) (by omega)), fun _ => ?_⟩
        ((repeat' first | refine hP _ ?_ | fail); try dsimp only)
        have lu : lw_is u us z := lw_is_of hl (fun k hk => hf k (by revert k; decide) (by revert k; decide) (by revert k; decide) (by revert k; decide) (by revert k; decide)) (by rw [hf 62 (by decide) (by decide) (by decide) (by decide) (by decide)])
        refine m_goesBy (Or.inl ⟨rfl, rfl, rfl⟩) hm hr lu (fun g0 => ?_) (fun g0 u2 f2 m2 => ?_)
        · ((repeat' first | refine hP _ ?_ | fail); try dsimp only)
          refine ⟨fun _ => ?_, fun c => absurd rfl c⟩
          ((repeat' first | refine hP _ ?_ | fail); try dsimp only)
          have e := h u hf (by rw [stN_no g0]; exact hm)
          rw [acc_no g0] at e
          exact e
        · rw [hf 0 (by decide) (by decide) (by decide) (by decide) (by decide), mi3, mi4] at m2
          ((repeat' first | refine hP _ ?_ | fail); try dsimp only)
          refine ⟨fun c => absurd c (by decide), fun _ => ?_⟩
          ((iterate 2 refine hP _ ?_); try dsimp only)
          rw [nI_1]
          refine ih (g + 1) (bt us (v 62 3) (v 62 4) r) u2 (by omega) m2 (rg_bt hr g0 mi5.1 mi6.1) (fun k k1 k2 k3 k4 k5 => by rw [f2 k k1 k2 k3 k4 k5, hf k k1 k2 k3 k4 k5]) (fun u' f' m' => ?_)
          have e := h u' f' (by rw [stN_go g0]; exact m')
          rw [acc_go g0, show ac_1 r (bt us (v 62 3) (v 62 4) r) (nI g) = nI (g + 1) from nI_1 g] at e
          exact e
    ((repeat' first | refine hP _ ?_ | fail); try dsimp only)
    refine ⟨fun _ => ?_, fun c => absurd rfl c⟩
    ((iterate 2 refine hP _ ?_); try dsimp only)
    refine key N 0 (v 63) v (by omega) hI.1.1 hI.1.2 (fun _ _ _ _ _ _ => rfl) (fun u' f' m' => ?_)
    refine h _ u' w (fun Q2 h2 => ?_)
    have lu : lw_is u' us z := lw_is_of hl (fun k hk => f' k (by revert k; decide) (by revert k; decide) (by revert k; decide) (by revert k; decide) (by revert k; decide)) (by rw [f' 62 (by decide) (by decide) (by decide) (by decide) (by decide)])
    have e62 : u' 62 = v 62 := f' 62 (by decide) (by decide) (by decide) (by decide) (by decide)
    have e63 : u' 63 = v 63 := f' 63 (by decide) (by decide) (by decide) (by decide) (by decide)
    refine en_X12_breaths rfl ?_
    intro P2 hP2
    ((repeat' first | refine hP2 _ ?_ | fail); try dsimp only)
    refine m_X12_in1 c1 c2 ?_
    ((repeat' first | refine hP2 _ ?_ | fail); try dsimp only)
    refine ⟨fun _ => ?_, fun c => absurd c (by decide)⟩
    ((repeat' first | refine hP2 _ ?_ | fail); try dsimp only)
    refine m_breathsGo (r := v 63) hN lu (by rw [e62]) (by rw [e62]) mi5.1 mi6.1 (fun j _ => by rw [e63]) hI.1.2 (fun v2 a1 a2 a3 a4 a5 a6 a7 => ?_)
    ((repeat' first | refine hP2 _ ?_ | fail); try dsimp only)
    refine am_qr a3 rfl (h2 v2 w ?_)
    have g : ∀ k, k < 62 → k ≠ 30 → k ≠ 31 → k ≠ 32 → k ≠ 8 → k ≠ 9 → v2 k = v k := fun k k0 k1 k2 k3 k4 k5 => by rw [a1.1 k (by omega), f' k k1 k2 k3 k4 k5]
    have g' : ∀ k, 63 < k → (k < 78 ∨ 87 < k) → v2 k = v k := fun k k0 k1 => by rw [a1.1 k (by omega), f' k (by omega) (by omega) (by omega) (by omega) (by omega)]
    refine hI.mv (fun k hk => ?_) (fun j hj => ?_) ?_ ?_
    · have : (k < 62 ∧ k ≠ 30 ∧ k ≠ 31 ∧ k ≠ 32 ∧ k ≠ 8 ∧ k ≠ 9) ∨ (63 < k ∧ (k < 78 ∨ 87 < k)) := by revert k; decide
      rcases this with ⟨t0, t1, t2, t3, t4, t5⟩ | ⟨t0, t1⟩
      · exact g k t0 t1 t2 t3 t4 t5
      · exact g' k t0 t1
    · rw [a1.2 j (by revert j; decide) (by revert j; decide) (by revert j; decide), e62]
    · have := mt_congr (r' := v2 63) a2 m'
      unfold mt at this
      rw [← a1.1 30 (by omega), ← a1.1 31 (by omega), ← a1.1 32 (by omega)] at this
      exact this
    · exact rg_congr a2 (rg_stN mi5.1 mi6.1 N hI.1.2)
