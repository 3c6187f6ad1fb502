/-! ===== pair: law, whole ===== -/
set_option maxRecDepth 100000 in
set_option maxHeartbeats 4000000 in
theorem pr_law {L : Nat} {xs : Nat → Int32} (a : Int32) : am_pair L xs 106 173 [.int a] := by
  intro d v w Q hI h
  obtain ⟨m, hm260, hm1, hm6, hby⟩ := hI.2.2.2.1
  refine en_X11_law rfl ?_
  intro P hP
  ((repeat' first | refine hP _ ?_ | fail); try dsimp only)
  refine m_X11_outside (fun c => ?_) (fun c1 c2 => ?_)
  · ((repeat' first | refine hP _ ?_ | refine ⟨fun c1 => absurd c1 (by decide), fun _ => ?_⟩ | refine ⟨fun _ => ?_, fun c1 => absurd c1 (by decide)⟩ | refine ⟨am_vin rfl, ?_⟩ | refine ⟨fun c1 => ?_, fun c1 => ?_⟩ | refine ⟨Or.inr rfl, ?_⟩ | refine ⟨Or.inl rfl, ?_⟩ | fail); all_goals (try dsimp only at *))
    refine h (-1) v w (fun Q2 h2 => ?_)
    refine en_X12_law rfl ?_
    intro P2 hP2
    ((repeat' first | refine hP2 _ ?_ | fail); try dsimp only)
    refine m_X12_in0 c ?_
    ((repeat' first | refine hP2 _ ?_ | refine ⟨fun c1 => absurd c1 (by decide), fun _ => ?_⟩ | refine ⟨fun _ => ?_, fun c1 => absurd c1 (by decide)⟩ | refine ⟨am_vin rfl, ?_⟩ | refine ⟨fun c1 => ?_, fun c1 => ?_⟩ | refine ⟨Or.inr rfl, ?_⟩ | refine ⟨Or.inl rfl, ?_⟩ | fail); all_goals (try dsimp only at *))
    exact h2 v w hI
  obtain ⟨n, hn1, hn, rfl⟩ := am_nat1 c1 c2 (n := 240) rfl
  ((repeat' first | refine hP _ ?_ | fail); try dsimp only)
  refine ⟨fun c => absurd rfl c, fun _ => ?_⟩
  ((repeat' first | refine hP _ ?_ | fail); try dsimp only)
  refine m_X8_has (fun q => ?_) (fun q => ?_)
  · rw [hm1] at q
    have hnm : n ≤ m := (nI_leI (by omega) (by omega)).mp q
    have hT : ∀ i, i < n → 0 ≤ v 2 i ∧ v 2 i ≤ 255 := fun i hi => by
      rw [hby i (by omega)]
      exact by_rng _
    -- the reference
    have hr : ∀ (v1 : am_V) (Q2 : Option Value → am_H → Prop), (∀ c, c ≠ 1 → c ≠ 3 → c ≠ 4 → c ≠ 5 → c ≠ 6 → c ≠ 7 → c ≠ 10 → c ≠ 11 → c ≠ 12 → c ≠ 13 → c ≠ 14 → c ≠ 15 → v1 c = v c) → (∀ e v2, txF (lawL (v 2) n) (v 2) n n 0 0 [] = .error e → (∀ c, c ≠ 62 → c ≠ 67 → c ≠ 68 → c ≠ 69 → c ≠ 70 → c ≠ 71 → c ≠ 72 → v2 c = v1 c) → (∀ j, j ≠ 6 → j ≠ 7 → j ≠ 8 → j ≠ 9 → j ≠ 10 → j ≠ 11 → j ≠ 12 → j ≠ 13 → j ≠ 14 → v2 62 j = v 62 j) → v2 62 6 = 0 → Q2 (some (.int (flt e))) (am_sh, v2, w)) → (∀ k s v2, txF (lawL (v 2) n) (v 2) n n 0 0 [] = .ok (k, s) → (∀ c, c < 62 ∨ 77 < c ∨ c = 63 ∨ c = 65 → v2 c = v1 c) → (∀ j, j ≠ 6 → j ≠ 7 → j ≠ 8 → j ≠ 9 → j ≠ 10 → j ≠ 11 → j ≠ 12 → j ≠ 13 → j ≠ 14 → j ≠ 15 → v2 62 j = v 62 j) → v2 62 6 = 0 → v2 62 15 = nI k → (∃ z, lawR s z (v2 73) (v2 74) (v2 75) (v2 76) (v2 77)) → Q2 (some (.int (nI k))) (am_sh, v2, w)) → am_run (am_kc L xs) am_idx am_m (d + 50) 173 [.ref 62, .int (nI n)] (am_sh, v1, w) 0 0 Q2 := by
      intro v1 Q2 hv1 hE hO
      have e62 : v1 62 = v 62 := hv1 62 (by decide) (by decide) (by decide) (by decide) (by decide) (by decide) (by decide) (by decide) (by decide) (by decide) (by decide) (by decide)
      have e66 : v1 66 = v 66 := hv1 66 (by decide) (by decide) (by decide) (by decide) (by decide) (by decide) (by decide) (by decide) (by decide) (by decide) (by decide) (by decide)
      refine en_X12_law rfl ?_
      intro P2 hP2
      ((repeat' first | refine hP2 _ ?_ | fail); try dsimp only)
      refine m_X12_in1 c1 c2 ?_
      ((repeat' first | refine hP2 _ ?_ | fail); try dsimp only)
      refine ⟨fun c => absurd c (by decide), fun _ => ?_⟩
      ((repeat' first | refine hP2 _ ?_ | fail); try dsimp only)
      rw [e62, hm6]
      refine ⟨fun _ => ?_, fun c => absurd q c⟩
      ((repeat' first | refine hP2 _ ?_ | fail); try dsimp only)
      refine m_begins ?_
      have k0 : ∀ c, c ≠ 62 → bgT v1 n c = v1 c := fun c h1 => by
        unfold bgT
        rw [am_up_ne _ _ _ h1, am_up_ne _ _ _ h1, am_up_ne _ _ _ h1, am_up_ne _ _ _ h1]
      have k62 : ∀ j, j ≠ 7 → j ≠ 8 → j ≠ 12 → j ≠ 14 → bgT v1 n 62 j = v 62 j := fun j h1 h2 h3 h4 => by
        rw [← e62]
        simp [bgT, am_up_eq, h1, h2, h3, h4]
      have k7 : bgT v1 n 62 7 = nI 0 := by simp [bgT, am_up_eq]; rfl
      have k8 : bgT v1 n 62 8 = nI n := by simp [bgT, am_up_eq]
      have k12 : bgT v1 n 62 12 = nI 0 := by simp [bgT, am_up_eq]; rfl
      have k14 : bgT v1 n 62 14 = nI 0 := by simp [bgT, am_up_eq]; rfl
      generalize bgT v1 n = u0 at k0 k62 k7 k8 k12 k14
      have S0 : rl_S u0 (v 2) n 0 0 [] u0 := ⟨⟨⟨k7, k8⟩, fun i hi => by rw [k0 66 (by decide), e66, hby i (by omega)], by omega, by omega⟩, ⟨fun _ _ _ _ _ _ _ _ => rfl, fun _ _ _ _ _ _ _ _ => rfl⟩, ⟨rfl, by omega⟩, k14, 0, Nat.le_refl _, k12, fun q l A B hq => absurd hq (by simp)⟩
      -- the ends
      have endE : ∀ (e : Nat × Nat) (u' : am_V), txF (lawL (v 2) n) (v 2) n n 0 0 [] = .error e → rl_fr u0 u' → u' 62 9 = flt e → P2 (cd_X12_law.drop 36, [some (.ref 62), some (.int (nI n)), some (.int 0), none], [], (am_sh, u', w), 0, 0) := by
        intro e u' he hf h9
        ((repeat' first | refine hP2 _ ?_ | fail); try dsimp only)
        refine ⟨fun c => absurd rfl c, fun _ => ?_⟩
        ((repeat' first | refine hP2 _ ?_ | fail); try dsimp only)
        rw [am_up_eq, if_neg (by decide), h9]
        refine hE e _ he (fun c a b f g i j k => ?_) (fun j a b c d e f g i k => ?_) ?_
        · rw [am_up_ne _ _ _ a, hf.1 c a b f g i j k, k0 c a]
        · rw [am_up_eq, if_neg (fun q => a q.2), hf.2 j b d e f g i k, k62 j b c g k]
        · rw [am_up_eq, if_pos ⟨rfl, rfl⟩]
      have endO : ∀ (k p : Nat) (s : List lc_U) (u' : am_V), txF (lawL (v 2) n) (v 2) n n 0 0 [] = .ok (k, s) → rl_S u0 (v 2) n k p s u' → P2 (cd_X12_law.drop 36, [some (.ref 62), some (.int (nI n)), some (.int 1), none], [], (am_sh, u', w), 0, 0) := by
        intro k p s u' he hS
        obtain ⟨s1, s2, ⟨s3, s4⟩, s5, z, s6, s7, s8⟩ := hS
        have hp := s1.2.2.2
        ((repeat' first | refine hP2 _ ?_ | fail); try dsimp only)
        refine ⟨fun _ => ?_, fun c => absurd c (by decide)⟩
        ((iterate 6 refine hP2 _ ?_); try dsimp only)
        rw [am_up_eq, if_neg (by decide), s5]
        have o1 : ∀ c, c ≠ 62 → am_up (am_up u' 62 6 0) 62 15 (nI k) c = u' c := fun c a => by rw [am_up_ne _ _ _ a, am_up_ne _ _ _ a]
        have j1 : ∀ j, j ≠ 6 → j ≠ 15 → am_up (am_up u' 62 6 0) 62 15 (nI k) 62 j = u' 62 j := fun j a b => by rw [am_up_eq, if_neg (fun q => b q.2), am_up_eq, if_neg (fun q => a q.2)]
        have j6 : am_up (am_up u' 62 6 0) 62 15 (nI k) 62 6 = 0 := by rw [am_up_eq, if_neg (by decide), am_up_eq, if_pos ⟨rfl, rfl⟩]
        have j15 : am_up (am_up u' 62 6 0) 62 15 (nI k) 62 15 = nI k := by rw [am_up_eq, if_pos ⟨rfl, rfl⟩]
        generalize am_up (am_up u' 62 6 0) 62 15 (nI k) = u2 at o1 j1 j6 j15
        refine lp_cpA hP2 (z := z) (by omega) (v := u2) (by rw [j1 12 (by decide) (by decide), s7]) (fun u3 i g1 g2 => ?_) z 0 u2 (by omega) (fun _ _ => rfl) (fun j hj => absurd hj (by omega))
        have e314 : u3 62 14 = nI k := by rw [g1 62 (by decide), j1 14 (by decide) (by decide), s5]
        ((iterate 2 refine hP2 _ ?_); try dsimp only)
        refine lp_cpB hP2 (z := k) s4 (v := u3) e314 (fun u4 i g3 g4 => ?_) k 0 u3 (by omega) (fun _ _ _ _ _ => rfl) (fun j hj => absurd hj (by omega))
        ((repeat' first | refine hP2 _ ?_ | fail); try dsimp only)
        rw [g3 62 (by decide) (by decide) (by decide) (by decide), e314]
        have o4 : ∀ c, c ≠ 62 → c ≠ 73 → c ≠ 74 → c ≠ 75 → c ≠ 76 → c ≠ 77 → u4 c = u' c := fun c a b e f g i => by rw [g3 c e f g i, g1 c b, o1 c a]
        have e462 : u4 62 = u2 62 := by rw [g3 62 (by decide) (by decide) (by decide) (by decide), g1 62 (by decide)]
        have e473 : ∀ i, i < z → u4 73 i = u' 67 i := fun i hi => by rw [g3 73 (by decide) (by decide) (by decide) (by decide), g2 i hi, o1 67 (by decide)]
        refine hO k s u4 he (fun c hc => ?_) (fun j a b c d e f g i k l => ?_) ?_ ?_ ⟨z, fun q l A B hq => ?_⟩
        · have hc1 : c ≠ 62 ∧ c ≠ 67 ∧ c ≠ 68 ∧ c ≠ 69 ∧ c ≠ 70 ∧ c ≠ 71 ∧ c ≠ 72 ∧ c ≠ 73 ∧ c ≠ 74 ∧ c ≠ 75 ∧ c ≠ 76 ∧ c ≠ 77 := by omega
          obtain ⟨t1, t2, t3, t4, t5, t6, t7, t8, t9, t10, t11, t12⟩ := hc1
          rw [o4 c t1 t8 t9 t10 t11 t12, s2.1 c t1 t2 t3 t4 t5 t6 t7, k0 c t1]
        · rw [e462, j1 j a l, s2.2 j b d e f g i k, k62 j b c g k]
        · rw [e462, j6]
        · rw [e462, j15]
        · obtain ⟨t1, ra, rt, re, t2, t3, t4, t5, t6, t7⟩ := s8 q l A B hq
          have hq2 := lt_of_get hq
          obtain ⟨y1, y2, y3, y4⟩ := g4 q (by omega)
          have g69 : ∀ c, c ≠ 62 → c ≠ 73 → u3 c = u' c := fun c a b => by rw [g1 c b, o1 c a]
          refine ⟨by rw [y1, g69 69 (by decide) (by decide), t1], ra, rt, re, by rw [y2, g69 70 (by decide) (by decide), t2], by rw [y3, g69 71 (by decide) (by decide), t3], by rw [y4, g69 72 (by decide) (by decide), t4], t5, sR_mono t6 t5 e473, fun t => sR_mono (t7 t) (by have := t6.1; omega) e473⟩
      obtain ⟨f, rfl⟩ : ∃ f, n = f + 1 := ⟨n - 1, by omega⟩
      ((repeat' first | refine hP2 _ ?_ | fail); try dsimp only)
      refine m_readsRule S0 (fun e u' he f' h9 => ?_) (fun p1 s1 u' he S1 => ?_)
      · have het : txF (lawL (v 2) (f + 1)) (v 2) (f + 1) (f + 1) 0 0 [] = .error e := by
          rw [txF_s, he]
        ((repeat' first | refine hP2 _ ?_ | fail); try dsimp only)
        exact ⟨fun _ => endE e u' het f' h9, fun c => absurd rfl c⟩
      · have het : txF (lawL (v 2) (f + 1)) (v 2) (f + 1) (f + 1) 0 0 [] = txR (lawL (v 2) (f + 1)) (v 2) (f + 1) f 1 p1 s1 := by
          rw [txF_s, he]
        rw [het] at endE
        simp only [het] at endO
        have hp1 : 1 ≤ p1 := by
          obtain ⟨q1, -, -, x, hx, -⟩ := law_ok (by omega) he
          obtain ⟨r1, A, B, ha, ht, -, -⟩ := ru_ok (by omega) (onl_lt lw_m1 q1) hx
          have l1 := am_ok (by omega) (onl_lt lw_m1 q1) ha
          have l2 := ts_ok (by omega) l1.1 ht
          omega
        ((iterate 1 refine hP2 _ ?_); try dsimp only)
        exact lp_law hP2 f 1 p1 s1 u' (by omega) S1 endE endO
    -- the class
    ((repeat' first | refine hP _ ?_ | fail); try dsimp only)
    refine ⟨fun _ => ?_, fun c => absurd c (by decide)⟩
    ((repeat' first | refine hP _ ?_ | fail); try dsimp only)
    have f0 : lw_fr v (am_up (am_up (am_up v 10 3 0) 10 1 (nI n)) 10 2 0) := fun c h1 _ _ _ _ _ => by rw [am_up_ne _ _ _ h1, am_up_ne _ _ _ h1, am_up_ne _ _ _ h1]
    refine m_readText_10 (T := v 2) (n := n) (L := lawL (v 2) n) (S := lw_S v (v 2) n) (E := lw_fr v) (s0 := []) (by omega) am_idx_2774 (fun k p s u hs => hs.1) (fun k p s u x hs hp => ?_) (fun k p s u hs => hs.2.1) (fun u x hu c h1 h2 h3 h4 h5 h6 => by rw [am_up_ne _ _ _ h1]; exact hu c h1 h2 h3 h4 h5 h6) (fun k p s u Q' hs _ hE hO => m_lawLine (d := d + 16) hs hE hO) ?_ (fun e v' he hf => ?_) (fun k p s v' he hs => ?_)
    · obtain ⟨a1, a2, a3, a4⟩ := hs
      refine ⟨take_rd (by unfold rdr; decide) a1 x hp, fun c h1 h2 h3 h4 h5 h6 => by rw [am_up_ne _ _ _ h1, am_up_ne _ _ _ h1]; exact a2 c h1 h2 h3 h4 h5 h6, a3, ?_⟩
      rcases a4 with a4 | ⟨a4, z, a5, a6, a7⟩
      · exact Or.inl a4
      · refine Or.inr ⟨?_, z, by omega, ?_, ?_⟩
        · rw [am_up_ne _ _ _ (by decide), am_up_ne _ _ _ (by decide), a4]
        · rw [am_up_ne _ _ _ (by decide), am_up_ne _ _ _ (by decide), a6]
        · rw [am_up_ne _ _ _ (show (12 : Nat) ≠ 10 by decide), am_up_ne _ _ _ (show (12 : Nat) ≠ 10 by decide), am_up_ne _ _ _ (show (13 : Nat) ≠ 10 by decide), am_up_ne _ _ _ (show (13 : Nat) ≠ 10 by decide), am_up_ne _ _ _ (show (14 : Nat) ≠ 10 by decide), am_up_ne _ _ _ (show (14 : Nat) ≠ 10 by decide), am_up_ne _ _ _ (show (15 : Nat) ≠ 10 by decide), am_up_ne _ _ _ (show (15 : Nat) ≠ 10 by decide)]
          exact a7
    · exact ⟨⟨⟨by simp [am_up_eq], by simp [am_up_eq]; rfl⟩, fun i _ => by rw [f0 2 (by decide) (by decide) (by decide) (by decide) (by decide) (by decide)], ⟨by omega, by omega⟩, hT, m, by rw [f0 1 (by decide) (by decide) (by decide) (by decide) (by decide) (by decide)]; exact hm1, hnm, hm260⟩, f0, ⟨rfl, by omega⟩, Or.inl rfl⟩
    · obtain ⟨b1, b2, b3⟩ := txF_er (L := lawL (v 2) n) (T := v 2) (n := n) (fun k p s e hp hh => law_er (by omega) hp hh) (fun k p s p1 s1 hp hh => (law_ok (by omega) hh).2.2.1) n 0 0 [] e (by omega) he
      ((repeat' first | refine hP _ ?_ | fail); try dsimp only)
      refine m_X8_clear ?_
      ((repeat' first | refine hP _ ?_ | fail); try dsimp only)
      refine ⟨fun _ => ?_, fun c => absurd (flt_neg b1 b2 (by omega)) c⟩
      ((repeat' first | refine hP _ ?_ | fail); try dsimp only)
      refine h _ _ w (fun Q2 h2 => ?_)
      refine hr _ Q2 (fun c g1 g2 g3 g4 g5 g6 g7 g8 g9 g10 g11 g12 => by rw [am_up_ne _ _ _ g1]; exact hf c g7 g8 g9 g10 g11 g12) (fun e2 v2 he2 x1 x2 x3 => ?_) (fun k s v2 he2 => absurd (he.symm.trans he2) (by simp))
      have ee : e = e2 := by simpa using he.symm.trans he2
      subst ee
      have y : ∀ c, c ∈ [0, 3, 4, 5, 6, 7, 22, 23, 24, 25, 30, 31, 32, 36, 37, 38, 63, 65, 73, 74, 75, 76, 77, 88, 89, 93] → v2 c = v c := fun c hc => by
        have t : c ≠ 1 ∧ c ≠ 10 ∧ c ≠ 11 ∧ c ≠ 12 ∧ c ≠ 13 ∧ c ≠ 14 ∧ c ≠ 15 ∧ c ≠ 62 ∧ c ≠ 67 ∧ c ≠ 68 ∧ c ≠ 69 ∧ c ≠ 70 ∧ c ≠ 71 ∧ c ≠ 72 := by revert c; decide
        obtain ⟨t1, t2, t3, t4, t5, t6, t7, t8, t9, t10, t11, t12, t13, t14⟩ := t
        rw [x1 c t8 t9 t10 t11 t12 t13 t14, am_up_ne _ _ _ t1, hf c t2 t3 t4 t5 t6 t7]
      have y62 : ∀ j, j ∈ [3, 4, 15, 48, 62] → v2 62 j = v 62 j := fun j hj => by
        have t : j ≠ 6 ∧ j ≠ 7 ∧ j ≠ 8 ∧ j ≠ 9 ∧ j ≠ 10 ∧ j ≠ 11 ∧ j ≠ 12 ∧ j ≠ 13 ∧ j ≠ 14 := by revert j; decide
        exact x2 j t.1 t.2.1 t.2.2.1 t.2.2.2.1 t.2.2.2.2.1 t.2.2.2.2.2.1 t.2.2.2.2.2.2.1 t.2.2.2.2.2.2.2.1 t.2.2.2.2.2.2.2.2
      refine h2 v2 w (hI.lwc (fun k hk => y k (by revert k; decide)) (fun j hj => y62 j (by revert j; decide)) ?_ x3 ?_)
      · rw [x1 1 (by decide) (by decide) (by decide) (by decide) (by decide) (by decide) (by decide), am_up_eq, if_pos ⟨rfl, rfl⟩]
      · unfold iv_law
        rw [y 3 (by decide), y 4 (by decide), y 5 (by decide), y 6 (by decide), y 7 (by decide), y62 15 (by decide), y 73 (by decide), y 74 (by decide), y 75 (by decide), y 76 (by decide), y 77 (by decide)]
        exact hI.2.2.2.2.1
    · have hk1 := txF_k _ _ _ _ _ _ he
      have hG : lawG s := txF_inv lawG (fun k p s p1 s1 hG hh => lawG_s (by omega) hG hh) n 0 0 [] k s (fun q l A B hq => absurd hq (by simp)) he
      obtain ⟨s1, s2, ⟨s3, s4⟩, s5⟩ := hs
      have hp := s1.2.2.1.2
      rcases s5 with s5 | ⟨s5, z, s6, s7, s8⟩
      · omega
      ((repeat' first | refine hP _ ?_ | fail); try dsimp only)
      refine m_X8_clear ?_
      ((repeat' first | refine hP _ ?_ | fail); try dsimp only)
      refine ⟨fun c => absurd c (nI_nle hk1 (by omega)), fun _ => ?_⟩
      ((repeat' first | refine hP _ ?_ | fail); try dsimp only)
      refine m_become (fun v3 f3 m6 m7 m4 m5 => ?_)
      ((repeat' first | refine hP _ ?_ | fail); try dsimp only)
      refine h _ _ w (fun Q2 h2 => ?_)
      refine hr v3 Q2 (fun c g1 g2 g3 g4 g5 g6 g7 g8 g9 g10 g11 g12 => by rw [f3 c g2 g3 g4 g5 g6, am_up_ne _ _ _ g1]; exact s2 c g7 g8 g9 g10 g11 g12) (fun e2 v2 he2 => absurd (he.symm.trans he2) (by simp)) (fun k2 s2' v2 he2 x1 x2 x3 x4 x5 => ?_)
      have ee : k = k2 ∧ s = s2' := by simpa using he.symm.trans he2
      obtain ⟨rfl, rfl⟩ := ee
      have y : ∀ c, c ∈ [0, 22, 23, 24, 25, 30, 31, 32, 36, 37, 38, 63, 65, 88, 89, 93] → v2 c = v c := fun c hc => by
        have t : c ≠ 1 ∧ c ≠ 10 ∧ c ≠ 11 ∧ c ≠ 12 ∧ c ≠ 13 ∧ c ≠ 14 ∧ c ≠ 15 ∧ c ≠ 3 ∧ c ≠ 4 ∧ c ≠ 5 ∧ c ≠ 6 ∧ c ≠ 7 ∧ (c < 62 ∨ 77 < c ∨ c = 63 ∨ c = 65) := by revert c; decide
        obtain ⟨t1, t2, t3, t4, t5, t6, t7, t8, t9, t10, t11, t12, t13⟩ := t
        rw [x1 c t13, f3 c t8 t9 t10 t11 t12, am_up_ne _ _ _ t1, s2 c t2 t3 t4 t5 t6 t7]
      refine h2 v2 w (hI.lwc y (fun j hj => ?_) ?_ x3 ?_)
      · have t : j ≠ 6 ∧ j ≠ 7 ∧ j ≠ 8 ∧ j ≠ 9 ∧ j ≠ 10 ∧ j ≠ 11 ∧ j ≠ 12 ∧ j ≠ 13 ∧ j ≠ 14 ∧ j ≠ 15 := by revert j; decide
        exact x2 j t.1 t.2.1 t.2.2.1 t.2.2.2.1 t.2.2.2.2.1 t.2.2.2.2.2.1 t.2.2.2.2.2.2.1 t.2.2.2.2.2.2.2.1 t.2.2.2.2.2.2.2.2.1 t.2.2.2.2.2.2.2.2.2
      · rw [x1 1 (by omega), f3 1 (by decide) (by decide) (by decide) (by decide) (by decide), am_up_eq, if_pos ⟨rfl, rfl⟩]
      · obtain ⟨zr, x5⟩ := x5
        have b11 : am_up v' 1 1 0 11 = v' 11 := by rw [am_up_ne _ _ _ (by decide)]
        have b12 : ∀ c, c ≠ 1 → am_up v' 1 1 0 c = v' c := fun c hc => by rw [am_up_ne _ _ _ hc]
        refine ⟨s, z, ⟨by omega, by omega⟩, ?_, ?_, by rw [x4, s3], fun q l A B hq => ?_⟩
        · rw [x1 3 (by omega), m7, b11, s5, s3]
        · rw [x1 3 (by omega), m6, b11, s7]
        · have hq2 := lt_of_get hq
          obtain ⟨g1, g2, g3⟩ := hG q l A B hq
          obtain ⟨a1, ca, ct, a2, a3, a4, a5⟩ := s8 q l A B hq
          obtain ⟨r1, ra, rt, re, r2, r3, r4, r5, r6, r7⟩ := x5 q l A B hq
          obtain ⟨n5, n6, n7⟩ := m5 q (by omega)
          have cc4 : ∀ i, i < z → v2 4 i = v' 12 i := fun i hi => by rw [x1 4 (by omega), m4 i (by omega), b12 12 (by decide)]
          refine ⟨g1, ?_, r1, ca, ct, ra, rt, re, ⟨?_, ?_, r2, r3, r4⟩, ⟨sC_mono a4 (Nat.le_refl _) cc4, r6, g2⟩, fun t => ⟨sC_mono (a5 t) (Nat.le_refl _) cc4, r7 t, g3 t⟩⟩
          · rw [x1 5 (by omega), n5, b12 13 (by decide), a1]
          · rw [x1 6 (by omega), n6, b12 14 (by decide), a2]
          · rw [x1 7 (by omega), n7, b12 15 (by decide), a3]
  · rw [hm1] at q
    ((repeat' first | refine hP _ ?_ | refine ⟨fun c1 => absurd c1 (by decide), fun _ => ?_⟩ | refine ⟨fun _ => ?_, fun c1 => absurd c1 (by decide)⟩ | refine ⟨am_vin rfl, ?_⟩ | refine ⟨fun c1 => ?_, fun c1 => ?_⟩ | refine ⟨Or.inr rfl, ?_⟩ | refine ⟨Or.inl rfl, ?_⟩ | fail); all_goals (try dsimp only at *))
    refine h (-1) v w (fun Q2 h2 => ?_)
    refine en_X12_law rfl ?_
    intro P2 hP2
    ((repeat' first | refine hP2 _ ?_ | fail); try dsimp only)
    refine m_X12_in1 c1 c2 ?_
    ((repeat' first | refine hP2 _ ?_ | fail); try dsimp only)
    refine ⟨fun c => absurd c (by decide), fun _ => ?_⟩
    ((repeat' first | refine hP2 _ ?_ | fail); try dsimp only)
    rw [hm6]
    refine ⟨fun c => absurd c (Int32.not_le.mpr q), fun _ => ?_⟩
    ((repeat' first | refine hP2 _ ?_ | fail); try dsimp only)
    exact h2 v w hI
