/-! ===== pair: treaty ===== -/
theorem am_idx_2760 : am_idx 2760 = some (fun c => am_sfind c 0 acL) := rfl
theorem am_idx_2773 : am_idx 2773 = some (fun c => am_sfind c 0 sgL2) := rfl
/-- what stays when a treaty is made -/
theorem INV.trc {v v' : am_V} (hI : INV v) (h : ∀ k, k ∈ [0, 3, 4, 5, 6, 7, 30, 31, 32, 36, 37, 38, 63, 65, 73, 74, 75, 76, 77] → v' k = v k) (h62 : ∀ j, j ∈ [3, 4, 15, 62] → v' 62 j = v 62 j) (h1 : v' 1 1 = 0) (h6 : v' 62 6 = 0) (ht : iv_tre v') : INV v' := by
  obtain ⟨hm, hk, hmi, -, hl, -⟩ := hI
  refine ⟨?_, ?_, ?_, ⟨0, by omega, h1, h6, fun i hi => absurd hi (by omega)⟩, ?_, ht⟩
  · unfold iv_meet iv_rng
    rw [h 30 (by decide), h 31 (by decide), h 32 (by decide), h 63 (by decide)]
    exact hm
  · unfold iv_meet iv_rng
    rw [h 0 (by decide), h 36 (by decide), h 37 (by decide), h 38 (by decide), h 65 (by decide)]
    exact hk
  · unfold iv_misc
    rw [h 0 (by decide), h62 62 (by decide), h62 3 (by decide), h62 4 (by decide)]
    exact hmi
  · unfold iv_law
    rw [h 3 (by decide), h 4 (by decide), h 5 (by decide), h 6 (by decide), h 7 (by decide), h62 15 (by decide), h 73 (by decide), h 74 (by decide), h 75 (by decide), h 76 (by decide), h 77 (by decide)]
    exact hl
def tr_ln (v : am_V) (ls : List tr_L) : Prop := ∀ q a b e, ls[q]? = some (a, b, e) → a < 16 ∧ b < 16 ∧ v 88 q = nI a ∧ v 89 q = nI b ∧ v 93 q = (if e = true then 1 else 0)
set_option maxRecDepth 100000 in
set_option maxHeartbeats 4000000 in
theorem pr_treaty {L : Nat} {xs : Nat → Int32} (a : Int32) : am_pair L xs 108 200 [.int a] := by
  intro d v w Q hI h
  obtain ⟨m, hm260, hm1, hm6, hby⟩ := hI.2.2.2.1
  refine en_X11_treaty rfl ?_
  intro P hP
  ((repeat' first | refine hP _ ?_ | fail); try dsimp only)
  refine m_X11_outside (fun c => ?_) (fun c1 c2 => ?_)
  · ((repeat' first | refine hP _ ?_ | refine ⟨fun c1 => absurd c1 (by decide), fun _ => ?_⟩ | refine ⟨fun _ => ?_, fun c1 => absurd c1 (by decide)⟩ | refine ⟨am_vin rfl, ?_⟩ | refine ⟨fun c1 => ?_, fun c1 => ?_⟩ | refine ⟨Or.inr rfl, ?_⟩ | refine ⟨Or.inl rfl, ?_⟩ | fail); all_goals (try dsimp only at *))
    refine h (-1) v w (fun Q2 h2 => ?_)
    refine en_X12_treaty rfl ?_
    intro P2 hP2
    ((repeat' first | refine hP2 _ ?_ | fail); try dsimp only)
    refine m_X12_in0 c ?_
    ((repeat' first | refine hP2 _ ?_ | refine ⟨fun c1 => absurd c1 (by decide), fun _ => ?_⟩ | refine ⟨fun _ => ?_, fun c1 => absurd c1 (by decide)⟩ | refine ⟨am_vin rfl, ?_⟩ | refine ⟨fun c1 => ?_, fun c1 => ?_⟩ | refine ⟨Or.inr rfl, ?_⟩ | refine ⟨Or.inl rfl, ?_⟩ | fail); all_goals (try dsimp only at *))
    exact h2 v w hI
  obtain ⟨n, hn1, hn, rfl⟩ := am_nat1 c1 c2 (n := 120) rfl
  ((repeat' first | refine hP _ ?_ | fail); try dsimp only)
  refine ⟨fun c => absurd rfl c, fun _ => ?_⟩
  ((repeat' first | refine hP _ ?_ | fail); try dsimp only)
  refine m_X8_has (fun q => ?_) (fun q => ?_)
  · rw [hm1] at q
    have hnm : n ≤ m := (nI_leI (by omega) (by omega)).mp q
    have hT : ∀ i, i < n → 0 ≤ v 2 i ∧ v 2 i ≤ 255 := fun i hi => by
      rw [hby i (by omega)]
      exact by_rng _
    -- the reference
    have hr : ∀ (v1 : am_V) (Q2 : Option Value → am_H → Prop), v1 62 = v 62 → v1 66 = v 66 → (∀ e v2, txF (trS (v 2) n) (v 2) n n 0 0 [] = .error e → (∀ c, c ≠ 62 → c ≠ 90 → c ≠ 91 → c ≠ 94 → v2 c = v1 c) → (∀ j, j ≠ 6 → j ≠ 7 → j ≠ 8 → j ≠ 9 → j ≠ 12 → j ≠ 14 → j ≠ 49 → v2 62 j = v 62 j) → v2 62 6 = 0 → Q2 (some (.int (flt e))) (am_sh, v2, w)) → (∀ k s v2, txF (trS (v 2) n) (v 2) n n 0 0 [] = .ok (k, s) → s.length = k → k ≤ 24 → (∀ c, c ≠ 62 → c ≠ 90 → c ≠ 91 → c ≠ 94 → c ≠ 88 → c ≠ 89 → c ≠ 93 → v2 c = v1 c) → (∀ j, j ≠ 6 → j ≠ 7 → j ≠ 8 → j ≠ 9 → j ≠ 12 → j ≠ 14 → j ≠ 48 → j ≠ 49 → v2 62 j = v 62 j) → v2 62 6 = 0 → v2 62 48 = nI k → tr_ln v2 s → Q2 (some (.int (nI k))) (am_sh, v2, w)) → am_run (am_kc L xs) am_idx am_m (d + 50) 200 [.ref 62, .int (nI n)] (am_sh, v1, w) 0 0 Q2 := by
      intro v1 Q2 e62 e66 hE hO
      refine en_X12_treaty rfl ?_
      intro P2 hP2
      ((repeat' first | refine hP2 _ ?_ | fail); try dsimp only)
      refine m_X12_in1 c1 c2 ?_
      ((repeat' first | refine hP2 _ ?_ | fail); try dsimp only)
      refine ⟨fun c => absurd c (by decide), fun _ => ?_⟩
      ((repeat' first | refine hP2 _ ?_ | fail); try dsimp only)
      rw [e62, hm6]
      refine ⟨fun _ => ?_, fun c => absurd q c⟩
      ((repeat' first | refine hP2 _ ?_ | fail); try dsimp only)
      refine m_begins ?_
      ((repeat' first | refine hP2 _ ?_ | fail); try dsimp only)
      generalize hu0 : am_up (bgT v1 n) 62 49 0 = u0
      have k0 : ∀ c, c ≠ 62 → u0 c = v1 c := fun c h1 => by
        rw [← hu0]
        unfold bgT
        rw [am_up_ne _ _ _ h1, am_up_ne _ _ _ h1, am_up_ne _ _ _ h1, am_up_ne _ _ _ h1, am_up_ne _ _ _ h1]
      have k62 : ∀ j, j ≠ 7 → j ≠ 8 → j ≠ 12 → j ≠ 14 → j ≠ 49 → u0 62 j = v 62 j := fun j h1 h2 h3 h4 h5 => by
        rw [← hu0, ← e62]
        simp [bgT, am_up_eq, h1, h2, h3, h4, h5]
      have k7 : u0 62 7 = nI 0 := by rw [← hu0]; simp [bgT, am_up_eq]; rfl
      have k8 : u0 62 8 = nI n := by rw [← hu0]; simp [bgT, am_up_eq]
      have k49 : u0 62 49 = nI 0 := by rw [← hu0]; simp [bgT, am_up_eq]; rfl
      clear hu0
      have r0 : rdR u0 (v 2) n 0 := ⟨⟨k7, k8⟩, fun i hi => by rw [k0 66 (by decide), e66, hby i (by omega)], by omega, by omega⟩
      -- the ends
      have endE : ∀ (e : Nat × Nat) (u' : am_V), txF (trS (v 2) n) (v 2) n n 0 0 [] = .error e → frT u0 u' → u' 62 9 = flt e → P2 (cd_X12_treaty.drop 39, [some (.ref 62), some (.int (nI n)), some (.int 0), none], [], (am_sh, u', w), 0, 0) := by
        intro e u' he hf h9
        ((repeat' first | refine hP2 _ ?_ | fail); try dsimp only)
        refine ⟨fun c => absurd rfl c, fun _ => ?_⟩
        ((repeat' first | refine hP2 _ ?_ | fail); try dsimp only)
        rw [am_up_eq, if_neg (by decide), h9]
        refine hE e _ he (fun c h1 h2 h3 h4 => ?_) (fun j h1 h2 h3 h4 h5 h6 h7 => ?_) ?_
        · rw [am_up_ne _ _ _ h1, hf.1 c h1 h2 h3 h4, k0 c h1]
        · rw [am_up_eq, if_neg (fun q => h1 q.2), hf.2 j h2 h4 h7, k62 j h2 h3 h5 h6 h7]
        · rw [am_up_eq, if_pos ⟨rfl, rfl⟩]
      have endO : ∀ (k : Nat) (s : List tr_L) (u' : am_V), txF (trS (v 2) n) (v 2) n n 0 0 [] = .ok (k, s) → frT u0 u' → s.length = k → k ≤ 24 → u' 62 49 = nI k → tr_rr u' s → P2 (cd_X12_treaty.drop 39, [some (.ref 62), some (.int (nI n)), some (.int 1), none], [], (am_sh, u', w), 0, 0) := by
        intro k s u' he hf hs hk24 h49 hat
        ((repeat' first | refine hP2 _ ?_ | fail); try dsimp only)
        refine ⟨fun _ => ?_, fun c => absurd c (by decide)⟩
        -- the copies
        have cp : ∀ (m i : Nat) (u : am_V), i + m = k → (∀ c, c ≠ 62 → c ≠ 88 → c ≠ 89 → c ≠ 93 → u c = u' c) → (∀ j, j ≠ 6 → j ≠ 48 → u 62 j = u' 62 j) → u 62 6 = 0 → u 62 48 = nI k → (∀ q x y e, q < i → s[q]? = some (x, y, e) → u 88 q = nI x ∧ u 89 q = nI y ∧ u 93 q = (if e = true then 1 else 0)) → P2 (cd_X12_treaty.drop 53, [some (.ref 62), some (.int (nI n)), some (.int 1), some (.int (nI i))], [], (am_sh, u, w), 0, 0) := by
          intro m
          induction m with
          | zero =>
            intro i u hi g1 g2 g6 g48 g3
            ((repeat' first | refine hP2 _ ?_ | fail); try dsimp only)
            rw [g2 49 (by decide) (by decide), h49]
            refine ⟨fun _ => ?_, fun c => absurd (nI_le (a := k) (b := i) (by omega) (by omega)) c⟩
            ((repeat' first | refine hP2 _ ?_ | fail); try dsimp only)
            rw [g2 49 (by decide) (by decide), h49]
            refine hO k s u he hs hk24 (fun c h1 h2 h3 h4 h5 h6 h7 => ?_) (fun j h1 h2 h3 h4 h5 h6 h7 h8 => ?_) g6 g48 (fun qq x y e hq => ?_)
            · rw [g1 c h1 h5 h6 h7, hf.1 c h1 h2 h3 h4, k0 c h1]
            · rw [g2 j h1 h7, hf.2 j h2 h4 h8, k62 j h2 h3 h5 h6 h8]
            · have t := hat qq x y e hq
              have hqk : qq < i := by
                rcases Nat.lt_or_ge qq s.length with z | z
                · omega
                · rw [List.getElem?_eq_none z] at hq
                  exact absurd hq (by simp)
              exact ⟨t.1, t.2.1, g3 qq x y e hqk hq⟩
          | succ m ih =>
            intro i u hi g1 g2 g6 g48 g3
            obtain ⟨⟨x, y, e⟩, hl⟩ : ∃ l, s[i]? = some l := ⟨_, List.getElem?_eq_getElem (by omega)⟩
            obtain ⟨hx, hy, t1, t2, t3⟩ := hat i x y e hl
            have hb : vp_nar .boolean (if e = true then 1 else 0) = (if e = true then 1 else 0) := by
              cases e <;> decide
            ((repeat' first | refine hP2 _ ?_ | fail); try dsimp only)
            rw [g2 49 (by decide) (by decide), h49]
            refine ⟨fun c => absurd c (nI_ge (by omega) (by omega)), fun _ => ?_⟩
            ((repeat' first | refine hP2 _ ?_ | fail); try dsimp only)
            refine ⟨vp_in_nI (by omega) (by omega), ?_⟩
            ((repeat' first | refine hP2 _ ?_ | fail); try dsimp only)
            refine ⟨vp_in_nI (by omega) (by omega), ?_⟩
            ((repeat' first | refine hP2 _ ?_ | fail); try dsimp only)
            refine ⟨vp_in_nI (by omega) (by omega), ?_⟩
            ((repeat' first | refine hP2 _ ?_ | fail); try dsimp only)
            refine ⟨vp_in_nI (by omega) (by omega), ?_⟩
            ((repeat' first | refine hP2 _ ?_ | fail); try dsimp only)
            refine ⟨vp_in_nI (by omega) (by omega), ?_⟩
            ((repeat' first | refine hP2 _ ?_ | fail); try dsimp only)
            refine ⟨vp_in_nI (by omega) (by omega), ?_⟩
            dsimp only
            rw [nI_clamp (by omega), am_up_ne _ _ _ (show (91 : Nat) ≠ 88 by decide), am_up_ne _ _ _ (show (94 : Nat) ≠ 89 by decide), am_up_ne _ _ _ (show (94 : Nat) ≠ 88 by decide), g1 90 (by decide) (by decide) (by decide) (by decide), g1 91 (by decide) (by decide) (by decide) (by decide), g1 94 (by decide) (by decide) (by decide) (by decide), t1, t2, t3, hb]
            ((iterate 2 refine hP2 _ ?_); try dsimp only)
            rw [nI_1]
            refine ih (i + 1) _ (by omega) (fun c h1 h2 h3 h4 => by rw [am_up_ne _ _ _ h4, am_up_ne _ _ _ h3, am_up_ne _ _ _ h2, g1 c h1 h2 h3 h4]) (fun j h1 h2 => by rw [am_up_ne _ _ _ (by decide), am_up_ne _ _ _ (by decide), am_up_ne _ _ _ (by decide), g2 j h1 h2]) (by rw [am_up_ne _ _ _ (by decide), am_up_ne _ _ _ (by decide), am_up_ne _ _ _ (by decide), g6]) (by rw [am_up_ne _ _ _ (by decide), am_up_ne _ _ _ (by decide), am_up_ne _ _ _ (by decide), g48]) (fun q x' y' e' hq hl' => ?_)
            by_cases z : q = i
            · subst z
              have ee : x = x' ∧ y = y' ∧ e = e' := by simpa using hl.symm.trans hl'
              obtain ⟨rfl, rfl, rfl⟩ := ee
              refine ⟨?_, ?_, ?_⟩
              · rw [am_up_ne _ _ _ (by decide), am_up_ne _ _ _ (by decide), am_up_eq, if_pos ⟨rfl, rfl⟩]
              · rw [am_up_ne _ _ _ (by decide), am_up_eq, if_pos ⟨rfl, rfl⟩]
              · rw [am_up_eq, if_pos ⟨rfl, rfl⟩]
            · obtain ⟨y1, y2, y3⟩ := g3 q x' y' e' (by omega) hl'
              refine ⟨?_, ?_, ?_⟩
              · rw [am_up_ne _ _ _ (by decide), am_up_ne _ _ _ (by decide), am_up_eq, if_neg (fun t => z t.2), y1]
              · rw [am_up_ne _ _ _ (by decide), am_up_eq, if_neg (fun t => z t.2), am_up_ne _ _ _ (by decide), y2]
              · rw [am_up_eq, if_neg (fun t => z t.2), am_up_ne _ _ _ (by decide), am_up_ne _ _ _ (by decide), y3]
        ((iterate 6 refine hP2 _ ?_); try dsimp only)
        rw [am_up_eq, if_neg (by decide), h49]
        refine cp k 0 _ (by omega) (fun c h1 _ _ _ => by rw [am_up_ne _ _ _ h1, am_up_ne _ _ _ h1]) (fun j h1 h2 => by rw [am_up_eq, if_neg (fun q => h2 q.2), am_up_eq, if_neg (fun q => h1 q.2)]) (by simp [am_up_eq]) (by simp [am_up_eq]) (fun q _ _ _ hq => absurd hq (by omega))
      obtain ⟨f, rfl⟩ : ∃ f, n = f + 1 := ⟨n - 1, by omega⟩
      refine m_readsPair (k := 0) (s := []) r0 rfl (by omega) k49 (fun i x y e hi => absurd hi (by simp)) (fun e u' he f' h9 => ?_) (fun p1 o u' he f' r' h49' at' => ?_)
      · have het : txF (trS (v 2) (f + 1)) (v 2) (f + 1) (f + 1) 0 0 [] = .error e := by
          rw [txF_s]
          unfold trS
          rw [he]
        ((repeat' first | refine hP2 _ ?_ | fail); try dsimp only)
        exact ⟨fun _ => endE e u' het f' h9, fun c => absurd rfl c⟩
      · obtain ⟨hp1, hp2, -, -, -⟩ := trL_ok he
        have het : txF (trS (v 2) (f + 1)) (v 2) (f + 1) (f + 1) 0 0 [] = txR (trS (v 2) (f + 1)) (v 2) (f + 1) f 1 p1 [o] := by
          rw [txF_s]
          unfold trS
          rw [he]
          rfl
        rw [het] at endE endO
        ((iterate 1 refine hP2 _ ?_); try dsimp only)
        exact lp_treaty hP2 f 1 p1 [o] u' (by omega) rfl (by omega) r' h49' at' f' endE endO
    -- the class
    ((repeat' first | refine hP _ ?_ | fail); try dsimp only)
    refine ⟨fun _ => ?_, fun c => absurd c (by decide)⟩
    ((repeat' first | refine hP _ ?_ | fail); try dsimp only)
    have f0 : td_fr v (am_up (am_up (am_up v 26 3 0) 26 1 (nI n)) 26 2 0) := fun c h1 _ _ _ => by rw [am_up_ne _ _ _ h1, am_up_ne _ _ _ h1, am_up_ne _ _ _ h1]
    refine m_readText_26 (T := v 2) (n := n) (L := trS (v 2) n) (S := td_S v (v 2) n) (E := td_fr v) (s0 := []) (by omega) am_idx_2774 (fun k p s u hs => hs.1) (fun k p s u x hs hp => ?_) (fun k p s u hs => hs.2.1) (fun u x hu c h1 h2 h3 h4 => by rw [am_up_ne _ _ _ h1]; exact hu c h1 h2 h3 h4) (fun k p s u Q' hs _ hE hO => m_trLine am_idx_2760 am_idx_2773 hs hE hO) ?_ (fun e v' he hf => ?_) (fun k p s v' he hs => ?_)
    · obtain ⟨a1, a2, a3, a4⟩ := hs
      refine ⟨take_rd (by unfold rdr; decide) a1 x hp, fun c h1 h2 h3 h4 => by rw [am_up_ne _ _ _ h1, am_up_ne _ _ _ h1]; exact a2 c h1 h2 h3 h4, a3, ?_⟩
      unfold tr_rd
      rw [am_up_ne _ _ _ (show (27 : Nat) ≠ 26 by decide), am_up_ne _ _ _ (show (27 : Nat) ≠ 26 by decide), am_up_ne _ _ _ (show (28 : Nat) ≠ 26 by decide), am_up_ne _ _ _ (show (28 : Nat) ≠ 26 by decide), am_up_ne _ _ _ (show (29 : Nat) ≠ 26 by decide), am_up_ne _ _ _ (show (29 : Nat) ≠ 26 by decide)]
      exact a4
    · refine ⟨⟨⟨by simp [am_up_eq], by simp [am_up_eq]; rfl⟩, fun i _ => by rw [f0 2 (by decide) (by decide) (by decide) (by decide)], ⟨by omega, by omega⟩, hT, m, by rw [f0 1 (by decide) (by decide) (by decide) (by decide)]; exact hm1, hnm, hm260⟩, f0, ⟨rfl, by omega⟩, fun i x y e hi => absurd hi (by simp)⟩
    · obtain ⟨b1, b2, b3⟩ := txF_er (L := trS (v 2) n) (T := v 2) (n := n) (fun k p s e hp hh => by
        unfold trS at hh
        cases ho : trL (v 2) n k p with
        | error e' =>
          rw [ho] at hh
          have e2 : e' = e := by simpa using hh
          subst e2
          exact trL_er hp ho
        | ok y =>
          rw [ho] at hh
          exact absurd hh (by simp)) (fun k p s p1 s1 hp hh => by
        unfold trS at hh
        cases ho : trL (v 2) n k p with
        | error e' =>
          rw [ho] at hh
          exact absurd hh (by simp)
        | ok y =>
          obtain ⟨q1, o⟩ := y
          rw [ho] at hh
          have e2 : q1 = p1 ∧ s ++ [o] = s1 := by simpa using hh
          have := (trL_ok ho).2.1
          omega) n 0 0 [] e (by omega) he
      ((repeat' first | refine hP _ ?_ | fail); try dsimp only)
      refine m_X8_clear ?_
      ((repeat' first | refine hP _ ?_ | fail); try dsimp only)
      refine ⟨fun _ => ?_, fun c => absurd (flt_neg b1 b2 (by omega)) c⟩
      ((repeat' first | refine hP _ ?_ | fail); try dsimp only)
      refine h _ _ w (fun Q2 h2 => ?_)
      refine hr _ Q2 (by rw [am_up_ne _ _ _ (by decide), hf 62 (by decide) (by decide) (by decide) (by decide)]) (by rw [am_up_ne _ _ _ (by decide), hf 66 (by decide) (by decide) (by decide) (by decide)]) (fun e2 v2 he2 x1 x2 x3 => ?_) (fun k s v2 he2 => absurd (he.symm.trans he2) (by simp))
      have ee : e = e2 := by simpa using he.symm.trans he2
      subst ee
      have y : ∀ c, c ≠ 1 → c ≠ 26 → c ≠ 27 → c ≠ 28 → c ≠ 29 → c ≠ 62 → c ≠ 90 → c ≠ 91 → c ≠ 94 → v2 c = v c := fun c h1 h2 h3 h4 h5 h6 h7 h8 h9 => by rw [x1 c h6 h7 h8 h9, am_up_ne _ _ _ h1, hf c h2 h3 h4 h5]
      refine h2 v2 w (hI.clr (fun k hk => ?_) (fun j hj => ?_) ?_ x3)
      · have t : k ≠ 1 ∧ k ≠ 26 ∧ k ≠ 27 ∧ k ≠ 28 ∧ k ≠ 29 ∧ k ≠ 62 ∧ k ≠ 90 ∧ k ≠ 91 ∧ k ≠ 94 := by revert k; decide
        exact y k t.1 t.2.1 t.2.2.1 t.2.2.2.1 t.2.2.2.2.1 t.2.2.2.2.2.1 t.2.2.2.2.2.2.1 t.2.2.2.2.2.2.2.1 t.2.2.2.2.2.2.2.2
      · have t : j ≠ 6 ∧ j ≠ 7 ∧ j ≠ 8 ∧ j ≠ 9 ∧ j ≠ 12 ∧ j ≠ 14 ∧ j ≠ 49 := by revert j; decide
        exact x2 j t.1 t.2.1 t.2.2.1 t.2.2.2.1 t.2.2.2.2.1 t.2.2.2.2.2.1 t.2.2.2.2.2.2
      · rw [x1 1 (by decide) (by decide) (by decide) (by decide), am_up_eq, if_pos ⟨rfl, rfl⟩]
    · have hk1 := txF_k _ _ _ _ _ _ he
      obtain ⟨s1, s2, ⟨s3, s4⟩, s5⟩ := hs
      ((repeat' first | refine hP _ ?_ | fail); try dsimp only)
      refine m_X8_clear ?_
      ((repeat' first | refine hP _ ?_ | fail); try dsimp only)
      refine ⟨fun c => absurd c (nI_nle hk1 (by omega)), fun _ => ?_⟩
      ((repeat' first | refine hP _ ?_ | fail); try dsimp only)
      rw [← s3]
      refine m_trBecome (ls := s) (by omega) ?_ (fun v3 f3 g3 g4 g5 => ?_)
      · unfold tr_rd
        rw [am_up_ne _ _ _ (show (27 : Nat) ≠ 1 by decide), am_up_ne _ _ _ (show (28 : Nat) ≠ 1 by decide), am_up_ne _ _ _ (show (29 : Nat) ≠ 1 by decide)]
        exact s5
      ((repeat' first | refine hP _ ?_ | fail); try dsimp only)
      refine h _ _ w (fun Q2 h2 => ?_)
      have y3 : ∀ c, c ≠ 1 → c ≠ 26 → c ≠ 27 → c ≠ 28 → c ≠ 29 → c ≠ 22 → c ≠ 23 → c ≠ 24 → c ≠ 25 → v3 c = v c := fun c h1 h2 h3 h4 h5 h6 h7 h8 h9 => by rw [f3 c h6 h7 h8 h9, am_up_ne _ _ _ h1, s2 c h2 h3 h4 h5]
      refine hr v3 Q2 (y3 62 (by decide) (by decide) (by decide) (by decide) (by decide) (by decide) (by decide) (by decide) (by decide)) (y3 66 (by decide) (by decide) (by decide) (by decide) (by decide) (by decide) (by decide) (by decide) (by decide)) (fun e2 v2 he2 => absurd (he.symm.trans he2) (by simp)) (fun k2 s2' v2 he2 _ _ x1 x2 x3 x48 xl => ?_)
      have ee : k = k2 ∧ s = s2' := by simpa using he.symm.trans he2
      obtain ⟨rfl, rfl⟩ := ee
      rw [s3] at h2
      have y : ∀ c, c ≠ 62 → c ≠ 90 → c ≠ 91 → c ≠ 94 → c ≠ 88 → c ≠ 89 → c ≠ 93 → c ≠ 1 → c ≠ 26 → c ≠ 27 → c ≠ 28 → c ≠ 29 → c ≠ 22 → c ≠ 23 → c ≠ 24 → c ≠ 25 → v2 c = v c := fun c h1 h2 h3 h4 h5 h6 h7 g1 g2 g3 g4 g5 g6 g7 g8 g9 => by rw [x1 c h1 h2 h3 h4 h5 h6 h7, y3 c g1 g2 g3 g4 g5 g6 g7 g8 g9]
      refine h2 v2 w (hI.trc (fun k hk => ?_) (fun j hj => ?_) ?_ x3 ?_)
      · have t : (k ≠ 62 ∧ k ≠ 90 ∧ k ≠ 91 ∧ k ≠ 94 ∧ k ≠ 88 ∧ k ≠ 89 ∧ k ≠ 93) ∧ (k ≠ 1 ∧ k ≠ 26 ∧ k ≠ 27 ∧ k ≠ 28 ∧ k ≠ 29 ∧ k ≠ 22 ∧ k ≠ 23 ∧ k ≠ 24 ∧ k ≠ 25) := by revert k; decide
        obtain ⟨⟨t1, t2, t3, t4, t5, t6, t7⟩, z1, z2, z3, z4, z5, z6, z7, z8, z9⟩ := t
        exact y k t1 t2 t3 t4 t5 t6 t7 z1 z2 z3 z4 z5 z6 z7 z8 z9
      · have t : j ≠ 6 ∧ j ≠ 7 ∧ j ≠ 8 ∧ j ≠ 9 ∧ j ≠ 12 ∧ j ≠ 14 ∧ j ≠ 48 ∧ j ≠ 49 := by revert j; decide
        exact x2 j t.1 t.2.1 t.2.2.1 t.2.2.2.1 t.2.2.2.2.1 t.2.2.2.2.2.1 t.2.2.2.2.2.2.1 t.2.2.2.2.2.2.2
      · rw [x1 1 (by decide) (by decide) (by decide) (by decide) (by decide) (by decide) (by decide), f3 1 (by decide) (by decide) (by decide) (by decide), am_up_eq, if_pos ⟨rfl, rfl⟩]
      · refine ⟨s, by omega, ?_, by rw [x48, s3], xl, ?_, ?_⟩
        · rw [x1 22 (by decide) (by decide) (by decide) (by decide) (by decide) (by decide) (by decide), g3]
        · rw [x1 22 (by decide) (by decide) (by decide) (by decide) (by decide) (by decide) (by decide)]
          exact g4
        · rw [x1 22 (by decide) (by decide) (by decide) (by decide) (by decide) (by decide) (by decide), x1 23 (by decide) (by decide) (by decide) (by decide) (by decide) (by decide) (by decide), x1 24 (by decide) (by decide) (by decide) (by decide) (by decide) (by decide) (by decide), x1 25 (by decide) (by decide) (by decide) (by decide) (by decide) (by decide) (by decide)]
          exact g5
  · rw [hm1] at q
    ((repeat' first | refine hP _ ?_ | refine ⟨fun c1 => absurd c1 (by decide), fun _ => ?_⟩ | refine ⟨fun _ => ?_, fun c1 => absurd c1 (by decide)⟩ | refine ⟨am_vin rfl, ?_⟩ | refine ⟨fun c1 => ?_, fun c1 => ?_⟩ | refine ⟨Or.inr rfl, ?_⟩ | refine ⟨Or.inl rfl, ?_⟩ | fail); all_goals (try dsimp only at *))
    refine h (-1) v w (fun Q2 h2 => ?_)
    refine en_X12_treaty rfl ?_
    intro P2 hP2
    ((repeat' first | refine hP2 _ ?_ | fail); try dsimp only)
    refine m_X12_in1 c1 c2 ?_
    ((repeat' first | refine hP2 _ ?_ | fail); try dsimp only)
    refine ⟨fun c => absurd c (by decide), fun _ => ?_⟩
    ((repeat' first | refine hP2 _ ?_ | fail); try dsimp only)
    rw [hm6]
    refine ⟨fun c => absurd c (Int32.not_le.mpr q), fun _ => ?_⟩
    ((repeat' first | refine hP2 _ ?_ | fail); try dsimp only)
    exact h2 v w hI
