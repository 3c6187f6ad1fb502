/-! ===== lane: the reference ===== -/
section M57
variable {K : am_K} {I : am_I} {d : Nat} {v : am_V} {w : am_X} {Q : Option Value → am_H → Prop}
set_option maxRecDepth 100000 in
set_option maxHeartbeats 4000000 in
theorem m_unfolds {n s : Nat} (hn : n ≤ 9) (hs : s < 2 ^ 31) (h : ∀ v' : am_V, (∀ i, i < n → v' 99 i = nI (lnD s i)) → (∀ k, k ≠ 99 → v' k = v k) → Q none (am_sh, v', w)) : am_run K I am_m (d + 1) 209 [.ref 62, .int (nI s), .int (nI n)] (am_sh, v, w) 0 0 Q := by
  refine en_X12_unfolds rfl ?_
  intro P hP
  have key : ∀ (k i : Nat) (u : am_V), i + k = n → (∀ j, j < i → u 99 j = nI (lnD s j)) → (∀ k, k ≠ 99 → u k = v k) → P (cd_X12_unfolds.drop 4, [some (.ref 62), some (.int (nI s)), some (.int (nI n)), some (.int (nI (s / 3 ^ i))), some (.int (nI i))], [], (am_sh, u, w), 0, 0) := by
    intro k
    induction k with
    | zero =>
      intro i u hi hu hf
      ((repeat' first | refine hP _ ?_ | fail); try dsimp only)
      refine ⟨fun _ => ?_, fun z => absurd (nI_le (show n ≤ i by omega) (by omega)) z⟩
      ((repeat' first | refine hP _ ?_ | fail); try dsimp only)
      exact h u (fun j hj => hu j (by omega)) hf
    | succ k ih =>
      intro i u hi hu hf
      have hd : s / 3 ^ i < 2 ^ 31 := Nat.lt_of_le_of_lt (Nat.div_le_self _ _) hs
      have e := ih (i + 1) (am_up u 99 i (nI (s / 3 ^ i % 3))) (by omega) (fun j hj => by
        rw [am_up_eq]
        by_cases q : j = i
        · rw [if_pos ⟨rfl, q⟩, q]
          rfl
        · rw [if_neg (fun z => q z.2)]
          exact hu j (by omega)) (fun k hk => by rw [am_up_ne _ _ _ hk]; exact hf k hk)
      rw [← nI_1, Nat.pow_succ, ← Nat.div_div_eq_div_mul] at e
      ((repeat' first | refine hP _ ?_ | fail); try dsimp only)
      refine ⟨fun z => absurd z (nI_ge (by omega) (by omega)), fun _ => ?_⟩
      ((repeat' first | refine hP _ ?_ | fail); try dsimp only)
      refine ⟨by decide, ?_⟩
      rw [show am_rem (nI (s / 3 ^ i)) 3 = nI (s / 3 ^ i % 3) from pk_rem (d := 3) hd (by decide) (by decide)]
      ((repeat' first | refine hP _ ?_ | fail); try dsimp only)
      refine ⟨vp_in_nI (by omega) (by omega), ?_⟩
      dsimp only
      rw [nI_clamp (by omega)]
      ((repeat' first | refine hP _ ?_ | fail); try dsimp only)
      refine ⟨by decide, ?_⟩
      rw [show nI (s / 3 ^ i) / 3 = nI (s / 3 ^ i / 3) from pk_div (d := 3) hd (by decide) (by decide)]
      ((iterate 3 refine hP _ ?_); try dsimp only)
      exact e
  ((iterate 4 refine hP _ ?_); try dsimp only)
  have e := key n 0 v (by omega) (fun j hj => absurd hj (by omega)) (fun _ _ => rfl)
  rw [Nat.pow_zero, Nat.div_one] at e
  exact e
set_option maxRecDepth 100000 in
set_option maxHeartbeats 4000000 in
theorem m_isThrough {n : Nat} {f : Nat → Nat} (hn : n ≤ 9) (hf : ∀ i, f i < 3) (hr : ∀ i, i < n → v 99 i = nI (f i)) (h : Q (some (.int (b2i (lnT f n 0 false)))) (am_sh, v, w)) : am_run K I am_m (d + 1) 210 [.ref 62, .int (nI n)] (am_sh, v, w) 0 0 Q := by
  refine en_X12_isThrough rfl ?_
  intro P hP
  generalize hR : lnT f n 0 false = R at h
  have key : ∀ (k i : Nat) (r : Bool), i + k = n → lnT f k i r = R → P (cd_X12_isThrough.drop 4, [some (.ref 62), some (.int (nI n)), some (.int (b2i r)), some (.int (nI i))], [], (am_sh, v, w), 0, 0) := by
    intro k
    induction k with
    | zero =>
      intro i r hi hres
      ((repeat' first | refine hP _ ?_ | fail); try dsimp only)
      refine ⟨fun _ => ?_, fun z => absurd (nI_le (show n ≤ i by omega) (by omega)) z⟩
      ((repeat' first | refine hP _ ?_ | fail); try dsimp only)
      rw [← hres] at h
      exact ⟨Or.inr rfl, h⟩
    | succ k ih =>
      intro i r hi hres
      have hf3 := hf i
      unfold lnT at hres
      have mid : ∀ (r' : Bool), r' = (r || Nat.beq (f i) 1) → P (cd_X12_isThrough.drop 15, [some (.ref 62), some (.int (nI n)), some (.int (b2i r')), some (.int (nI i))], [], (am_sh, v, w), 0, 0) := by
        intro r' hr'
        rw [← hr'] at hres
        ((repeat' first | refine hP _ ?_ | fail); try dsimp only)
        refine ⟨vp_in_nI (by omega) (by omega), ?_⟩
        ((repeat' first | refine hP _ ?_ | fail); try dsimp only)
        rw [nI_clamp (by omega), hr i (by omega)]
        refine ⟨fun c => ?_, fun c => ?_⟩
        · have q : ¬ f i = 2 := fun z => c (by rw [z]; rfl)
          rw [am_bne q] at hres
          have e := ih (i + 1) r' (by omega) (by rw [← hres]; cases r' <;> rfl)
          rw [← nI_1] at e
          ((iterate 2 refine hP _ ?_); try dsimp only)
          exact e
        · have q : f i = 2 := (nI_eq (b := 2) (by omega) (by omega)).mp c
          rw [q, am_beq] at hres
          ((repeat' first | refine hP _ ?_ | fail); try dsimp only)
          cases r' with
          | false =>
            have e := ih (i + 1) false (by omega) hres
            rw [← nI_1] at e
            refine ⟨fun _ => ?_, fun c => absurd rfl c⟩
            ((iterate 2 refine hP _ ?_); try dsimp only)
            exact e
          | true =>
            refine ⟨fun c => absurd c (by decide), fun _ => ?_⟩
            ((repeat' first | refine hP _ ?_ | fail); try dsimp only)
            rw [← hres] at h
            exact ⟨Or.inl rfl, h⟩
      ((repeat' first | refine hP _ ?_ | fail); try dsimp only)
      refine ⟨fun z => absurd z (nI_ge (by omega) (by omega)), fun _ => ?_⟩
      ((repeat' first | refine hP _ ?_ | fail); try dsimp only)
      refine ⟨vp_in_nI (by omega) (by omega), ?_⟩
      ((repeat' first | refine hP _ ?_ | fail); try dsimp only)
      rw [nI_clamp (by omega), hr i (by omega)]
      refine ⟨fun c => ?_, fun c => ?_⟩
      · have q : ¬ f i = 1 := fun z => c (by rw [z]; rfl)
        exact mid r (by rw [am_bne q, Bool.or_false])
      · have q : f i = 1 := (nI_eq (b := 1) (by omega) (by omega)).mp c
        have e := mid true (by rw [q, am_beq, Bool.or_true])
        ((iterate 2 refine hP _ ?_); try dsimp only)
        exact e
  ((iterate 4 refine hP _ ?_); try dsimp only)
  exact key n 0 false (by omega) hR
theorem in0 {k n : Nat} (hk : k < n) (hn : n ≤ 9) : (0 : Int32) ≤ nI k ∧ nI k ≤ nI n - 1 := by
  refine ⟨nI_pos' (by omega), ?_⟩
  rw [show nI n - 1 = nI (n - 1) from pk_sub (b := 1) (by omega)]
  exact nI_le (by omega) (by omega)
theorem in1 {k n : Nat} (hk : n ≤ k) (h1 : 1 ≤ n) (hn : k ≤ 20) : nI k < 0 ∨ nI n - 1 < nI k := by
  rw [show nI n - 1 = nI (n - 1) from pk_sub (b := 1) (by omega)]
  exact Or.inr (nI_lt (by omega) (by omega))
set_option maxRecDepth 100000 in
set_option maxHeartbeats 4000000 in
theorem m_goesTo {n k : Nat} {f : Nat → Nat} (hn : n ≤ 9) (hf : ∀ i, f i < 3) (hr : ∀ i, i < n → v 99 i = nI (f i)) (hk : k < n) (h0 : lnL n f k = none → Q (some (.int (-1))) (am_sh, v, w)) (h1 : ∀ to, lnL n f k = some to → Q (some (.int (nI to))) (am_sh, v, w)) : am_run K I am_m (d + 2) 211 [.ref 62, .int (nI k), .int (nI n)] (am_sh, v, w) 0 0 Q := by
  refine en_X12_goesTo rfl ?_
  intro P hP
  have hk3 := hf k
  unfold lnL at h0 h1
  ((repeat' first | refine hP _ ?_ | fail); try dsimp only)
  refine ⟨vp_in_nI (by omega) (by omega), ?_⟩
  ((repeat' first | refine hP _ ?_ | fail); try dsimp only)
  rw [nI_clamp (by omega), hr k hk]
  rcases (show f k = 0 ∨ f k = 1 ∨ f k = 2 by omega) with e | e | e
  · rw [e] at h0 h1 ⊢
    refine ⟨fun c => absurd rfl c, fun _ => ?_⟩
    ((repeat' first | refine hP _ ?_ | fail); try dsimp only)
    exact h0 rfl
  · have ek : v 99 k = nI 1 := by rw [hr k hk, e]
    rw [e] at h0 h1 ⊢
    simp only [if_neg (show ¬ (1 = 0) by decide), if_true] at h0 h1
    refine ⟨fun _ => ?_, fun c => absurd c (by decide)⟩
    -- the leap
    have leap : ¬ (k + 1 < n ∧ f (k + 1) = 0) → P (cd_X12_goesTo.drop 37, [some (.ref 62), some (.int (nI k)), some (.int (nI n)), some (.int 1)], [], (am_sh, v, w), 0, 0) := by
      intro q
      rw [if_neg q] at h0 h1
      ((repeat' first | refine hP _ ?_ | fail); try dsimp only)
      rw [show nI k + 2 * 1 = nI (k + 2) from nI_add k 2]
      by_cases q4 : k + 2 < n
      · have hk4 := hf (k + 1)
        have hk5 := hf (k + 2)
        refine m_X12_in1 (in0 q4 hn).1 (in0 q4 hn).2 ?_
        ((repeat' first | refine hP _ ?_ | fail); try dsimp only)
        refine ⟨fun c => absurd c (by decide), fun _ => ?_⟩
        ((repeat' first | refine hP _ ?_ | fail); try dsimp only)
        rw [nI_1]
        refine ⟨vp_in_nI (by omega) (by omega), ?_⟩
        ((repeat' first | refine hP _ ?_ | fail); try dsimp only)
        refine ⟨vp_in_nI (by omega) (by omega), ?_⟩
        ((repeat' first | refine hP _ ?_ | fail); try dsimp only)
        rw [nI_clamp (by omega), nI_clamp (by omega), ek, hr (k + 1) (by omega), show (3 : Int32) - nI 1 = nI 2 from rfl]
        refine ⟨fun c => ?_, fun c => ?_⟩
        · have q3 : ¬ f (k + 1) = 2 := fun z => c (by rw [z])
          rw [if_neg (fun z => q3 z.2.1)] at h0
          ((repeat' first | refine hP _ ?_ | fail); try dsimp only)
          exact h0 rfl
        · have q3 : f (k + 1) = 2 := (nI_eq (by omega) (by omega)).mp c
          ((repeat' first | refine hP _ ?_ | fail); try dsimp only)
          rw [show nI k + 2 * 1 = nI (k + 2) from nI_add k 2]
          refine ⟨vp_in_nI (by omega) (by omega), ?_⟩
          ((repeat' first | refine hP _ ?_ | fail); try dsimp only)
          rw [nI_clamp (by omega), hr (k + 2) q4]
          refine ⟨fun c => ?_, fun c => ?_⟩
          · have q5 : ¬ f (k + 2) = 0 := fun z => c (by rw [z]; rfl)
            rw [if_neg (fun z => q5 z.2.2)] at h0
            ((repeat' first | refine hP _ ?_ | fail); try dsimp only)
            exact h0 rfl
          · have q5 : f (k + 2) = 0 := (nI_eq (b := 0) (by omega) (by omega)).mp c
            ((repeat' first | refine hP _ ?_ | fail); try dsimp only)
            rw [show nI k + 2 * 1 = nI (k + 2) from nI_add k 2]
            exact h1 _ (by rw [if_pos ⟨q4, q3, q5⟩])
      · rw [if_neg (fun z => q4 z.1)] at h0
        refine m_X12_in0 (in1 (by omega) (by omega) (by omega)) ?_
        ((repeat' first | refine hP _ ?_ | fail); try dsimp only)
        refine ⟨fun _ => ?_, fun c => absurd rfl c⟩
        ((repeat' first | refine hP _ ?_ | fail); try dsimp only)
        exact h0 rfl
    ((repeat' first | refine hP _ ?_ | fail); try dsimp only)
    refine ⟨vp_in_nI (by omega) (by omega), ?_⟩
    ((repeat' first | refine hP _ ?_ | fail); try dsimp only)
    rw [nI_clamp (by omega), ek]
    refine ⟨fun c => absurd rfl c, fun _ => ?_⟩
    ((repeat' first | refine hP _ ?_ | fail); try dsimp only)
    rw [nI_1]
    by_cases q1 : k + 1 < n
    · have hk4 := hf (k + 1)
      refine m_X12_in1 (in0 q1 hn).1 (in0 q1 hn).2 ?_
      ((repeat' first | refine hP _ ?_ | fail); try dsimp only)
      refine ⟨fun c => absurd c (by decide), fun _ => ?_⟩
      ((repeat' first | refine hP _ ?_ | fail); try dsimp only)
      rw [nI_1]
      refine ⟨vp_in_nI (by omega) (by omega), ?_⟩
      ((repeat' first | refine hP _ ?_ | fail); try dsimp only)
      rw [nI_clamp (by omega), hr (k + 1) q1]
      refine ⟨fun c => ?_, fun c => ?_⟩
      · exact leap (fun z => c (by rw [z.2]; rfl))
      · have q2 : f (k + 1) = 0 := (nI_eq (b := 0) (by omega) (by omega)).mp c
        ((repeat' first | refine hP _ ?_ | fail); try dsimp only)
        rw [nI_1]
        exact h1 _ (by rw [if_pos ⟨q1, q2⟩])
    · refine m_X12_in0 (in1 (by omega) (by omega) (by omega)) ?_
      ((repeat' first | refine hP _ ?_ | fail); try dsimp only)
      refine ⟨fun _ => ?_, fun c => absurd rfl c⟩
      exact leap (fun z => q1 z.1)
  · have ek : v 99 k = nI 2 := by rw [hr k hk, e]
    rw [e] at h0 h1 ⊢
    simp only [if_neg (show ¬ (2 = 0) by decide), if_neg (show ¬ (2 = 1) by decide)] at h0 h1
    refine ⟨fun _ => ?_, fun c => absurd c (by decide)⟩
    have leap : ¬ (1 ≤ k ∧ f (k - 1) = 0) → P (cd_X12_goesTo.drop 37, [some (.ref 62), some (.int (nI k)), some (.int (nI n)), some (.int (-1))], [], (am_sh, v, w), 0, 0) := by
      intro q
      rw [if_neg q] at h0 h1
      ((repeat' first | refine hP _ ?_ | fail); try dsimp only)
      by_cases q4 : 2 ≤ k
      · have hk4 := hf (k - 1)
        have hk5 := hf (k - 2)
        rw [nIm2 q4]
        refine m_X12_in1 (in0 (show k - 2 < n by omega) hn).1 (in0 (show k - 2 < n by omega) hn).2 ?_
        ((repeat' first | refine hP _ ?_ | fail); try dsimp only)
        refine ⟨fun c => absurd c (by decide), fun _ => ?_⟩
        ((repeat' first | refine hP _ ?_ | fail); try dsimp only)
        rw [nIm1 (show 1 ≤ k by omega)]
        refine ⟨vp_in_nI (by omega) (by omega), ?_⟩
        ((repeat' first | refine hP _ ?_ | fail); try dsimp only)
        refine ⟨vp_in_nI (by omega) (by omega), ?_⟩
        ((repeat' first | refine hP _ ?_ | fail); try dsimp only)
        rw [nI_clamp (by omega), nI_clamp (by omega), ek, hr (k - 1) (by omega), show (3 : Int32) - nI 2 = nI 1 from rfl]
        refine ⟨fun c => ?_, fun c => ?_⟩
        · have q3 : ¬ f (k - 1) = 1 := fun z => c (by rw [z])
          rw [if_neg (fun z => q3 z.2.1)] at h0
          ((repeat' first | refine hP _ ?_ | fail); try dsimp only)
          exact h0 rfl
        · have q3 : f (k - 1) = 1 := (nI_eq (by omega) (by omega)).mp c
          ((repeat' first | refine hP _ ?_ | fail); try dsimp only)
          rw [nIm2 q4]
          refine ⟨vp_in_nI (by omega) (by omega), ?_⟩
          ((repeat' first | refine hP _ ?_ | fail); try dsimp only)
          rw [nI_clamp (by omega), hr (k - 2) (by omega)]
          refine ⟨fun c => ?_, fun c => ?_⟩
          · have q5 : ¬ f (k - 2) = 0 := fun z => c (by rw [z]; rfl)
            rw [if_neg (fun z => q5 z.2.2)] at h0
            ((repeat' first | refine hP _ ?_ | fail); try dsimp only)
            exact h0 rfl
          · have q5 : f (k - 2) = 0 := (nI_eq (b := 0) (by omega) (by omega)).mp c
            ((repeat' first | refine hP _ ?_ | fail); try dsimp only)
            rw [nIm2 q4]
            exact h1 _ (by rw [if_pos ⟨q4, q3, q5⟩])
      · rw [if_neg (fun z => q4 z.1)] at h0
        have hk01 : k = 0 ∨ k = 1 := by omega
        rcases hk01 with rfl | rfl
        · refine m_X12_in0 (Or.inl (by decide)) ?_
          ((repeat' first | refine hP _ ?_ | fail); try dsimp only)
          refine ⟨fun _ => ?_, fun c => absurd rfl c⟩
          ((repeat' first | refine hP _ ?_ | fail); try dsimp only)
          exact h0 rfl
        · refine m_X12_in0 (Or.inl (by decide)) ?_
          ((repeat' first | refine hP _ ?_ | fail); try dsimp only)
          refine ⟨fun _ => ?_, fun c => absurd rfl c⟩
          ((repeat' first | refine hP _ ?_ | fail); try dsimp only)
          exact h0 rfl
    ((repeat' first | refine hP _ ?_ | fail); try dsimp only)
    refine ⟨vp_in_nI (by omega) (by omega), ?_⟩
    ((repeat' first | refine hP _ ?_ | fail); try dsimp only)
    rw [nI_clamp (by omega), ek]
    refine ⟨fun _ => ?_, fun c => absurd c (by decide)⟩
    ((repeat' first | refine hP _ ?_ | fail); try dsimp only)
    by_cases q1 : 1 ≤ k
    · have hk4 := hf (k - 1)
      rw [nIm1 q1]
      refine m_X12_in1 (in0 (show k - 1 < n by omega) hn).1 (in0 (show k - 1 < n by omega) hn).2 ?_
      ((repeat' first | refine hP _ ?_ | fail); try dsimp only)
      refine ⟨fun c => absurd c (by decide), fun _ => ?_⟩
      ((repeat' first | refine hP _ ?_ | fail); try dsimp only)
      rw [nIm1 q1]
      refine ⟨vp_in_nI (by omega) (by omega), ?_⟩
      ((repeat' first | refine hP _ ?_ | fail); try dsimp only)
      rw [nI_clamp (by omega), hr (k - 1) (by omega)]
      refine ⟨fun c => ?_, fun c => ?_⟩
      · exact leap (fun z => c (by rw [z.2]; rfl))
      · have q2 : f (k - 1) = 0 := (nI_eq (b := 0) (by omega) (by omega)).mp c
        ((repeat' first | refine hP _ ?_ | fail); try dsimp only)
        rw [nIm1 q1]
        exact h1 _ (by rw [if_pos ⟨q1, q2⟩])
    · have hk0 : k = 0 := by omega
      subst hk0
      refine m_X12_in0 (Or.inl (by decide)) ?_
      ((repeat' first | refine hP _ ?_ | fail); try dsimp only)
      refine ⟨fun _ => ?_, fun c => absurd rfl c⟩
      exact leap (fun z => q1 z.1)
end M57
