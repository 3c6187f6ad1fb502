/-! ===== lane: the class, small methods ===== -/
def lnOk (t : Nat) : Bool := Nat.beq t 62 || (Nat.beq t 60 || Nat.beq t 46)
def lnV (t : Nat) : Nat := if t = 62 then 1 else if t = 60 then 2 else 0
theorem lnV_lt (t : Nat) : lnV t < 3 := by
  unfold lnV
  (repeat' split) <;> omega
theorem nIm1 {k : Nat} (h : 1 ≤ k) : nI k + (-1) = nI (k - 1) := by
  obtain ⟨j, rfl⟩ : ∃ j, k = j + 1 := ⟨k - 1, by omega⟩
  exact pk_m1 j
theorem nIm2 {k : Nat} (h : 2 ≤ k) : nI k + 2 * (-1) = nI (k - 2) := by
  rw [show (2 : Int32) * (-1) = (-1) + (-1) from rfl, ← Int32.add_assoc, nIm1 (by omega), nIm1 (by omega), Nat.sub_sub]
section M55
variable {L : Nat} {xs : Nat → Int32} {I : am_I} {d : Nat} {v : am_V} {w : am_X} {Q : Option Value → am_H → Prop}
set_option maxRecDepth 100000 in
set_option maxHeartbeats 4000000 in
theorem m_stands1 {n k : Nat} {f : Nat → Nat} (hn : n ≤ 9) (hpl : v 39 3 = nI n) (hr : ∀ i, i < n → v 42 i = nI (f i)) (hk : k < n) (h : Q (some (.int (nI (f k)))) (am_sh, v, w)) : am_run (am_kc L xs) I am_m (d + 1) 31 [.ref 39, .int (nI k)] (am_sh, v, w) 0 0 Q := by
  refine en_X2_standsAt rfl ?_
  intro P hP
  ((repeat' first | refine hP _ ?_ | fail); try dsimp only)
  refine ⟨fun z => absurd z (nI_pos (by omega)), fun _ => ?_⟩
  ((repeat' first | refine hP _ ?_ | fail); try dsimp only)
  rw [hpl]
  refine ⟨fun z => absurd z (nI_ge hk (by omega)), fun _ => ?_⟩
  ((repeat' first | refine hP _ ?_ | fail); try dsimp only)
  refine ⟨vp_in_nI (by omega) (by omega), ?_⟩
  ((repeat' first | refine hP _ ?_ | fail); try dsimp only)
  rw [nI_clamp (by omega), hr k hk]
  exact h
set_option maxRecDepth 100000 in
set_option maxHeartbeats 4000000 in
theorem m_stands0 {n : Nat} {x : Int32} (hpl : v 39 3 = nI n) (hx : x < 0 ∨ nI n ≤ x) (h : Q (some (.int (-1))) (am_sh, v, w)) : am_run (am_kc L xs) I am_m (d + 1) 31 [.ref 39, .int x] (am_sh, v, w) 0 0 Q := by
  refine en_X2_standsAt rfl ?_
  intro P hP
  ((repeat' first | refine hP _ ?_ | fail); try dsimp only)
  refine ⟨fun z => ?_, fun z => ?_⟩
  · ((repeat' first | refine hP _ ?_ | fail); try dsimp only)
    exact h
  · ((repeat' first | refine hP _ ?_ | fail); try dsimp only)
    rw [hpl]
    refine ⟨fun z2 => ?_, fun z2 => ?_⟩
    · ((repeat' first | refine hP _ ?_ | fail); try dsimp only)
      exact h
    · rcases hx with y | y
      · exact absurd y z
      · exact absurd y z2
set_option maxRecDepth 100000 in
set_option maxHeartbeats 4000000 in
theorem m_landing {n k : Nat} {f : Nat → Nat} (hn : n ≤ 9) (hf : ∀ i, f i < 3) (hpl : v 39 3 = nI n) (hr : ∀ i, i < n → v 42 i = nI (f i)) (hk : k < n) (h0 : lnL n f k = none → Q (some (.int (-1))) (am_sh, v, w)) (h1 : ∀ to, lnL n f k = some to → Q (some (.int (nI to))) (am_sh, v, w)) : am_run (am_kc L xs) I am_m (d + 2) 30 [.ref 39, .int (nI k)] (am_sh, v, w) 0 0 Q := by
  refine en_X2_landing rfl ?_
  intro P hP
  ((repeat' first | refine hP _ ?_ | fail); try dsimp only)
  refine m_stands1 hn hpl hr hk ?_
  have hk3 := hf k
  unfold lnL at h0 h1
  rcases (show f k = 0 ∨ f k = 1 ∨ f k = 2 by omega) with e | e | e
  · rw [e] at h0 h1 ⊢
    ((repeat' first | refine hP _ ?_ | refine ⟨fun c1 => absurd c1 (by decide), fun _ => ?_⟩ | refine ⟨fun _ => ?_, fun c1 => absurd c1 (by decide)⟩ | refine ⟨am_vin rfl, ?_⟩ | refine ⟨fun c1 => ?_, fun c1 => ?_⟩ | refine ⟨Or.inr rfl, ?_⟩ | refine ⟨Or.inl rfl, ?_⟩ | fail); all_goals (try dsimp only at *))
    exact h0 rfl
  · rw [e] at h0 h1 ⊢
    simp only [if_neg (show ¬ (1 = 0) by decide), if_true] at h0 h1
    ((repeat' first | refine hP _ ?_ | fail); try dsimp only)
    refine ⟨fun c => absurd c (by decide), fun _ => ?_⟩
    ((repeat' first | refine hP _ ?_ | fail); try dsimp only)
    refine ⟨fun _ => ?_, fun c => absurd c (by decide)⟩
    ((repeat' first | refine hP _ ?_ | fail); try dsimp only)
    refine ⟨fun c => absurd rfl c, fun _ => ?_⟩
    ((repeat' first | refine hP _ ?_ | fail); try dsimp only)
    rw [nI_1]
    by_cases q1 : k + 1 < n
    · refine m_stands1 hn hpl hr q1 ?_
      have hk4 := hf (k + 1)
      ((repeat' first | refine hP _ ?_ | fail); try dsimp only)
      by_cases q2 : f (k + 1) = 0
      · rw [q2]
        refine ⟨fun c => absurd rfl c, fun _ => ?_⟩
        ((repeat' first | refine hP _ ?_ | fail); try dsimp only)
        rw [nI_1]
        exact h1 _ (by rw [if_pos ⟨q1, q2⟩])
      · rw [if_neg (fun z => q2 z.2)] at h0 h1
        refine ⟨fun _ => ?_, fun c => absurd ((nI_eq (b := 0) (by omega) (by omega)).mp c) q2⟩
        ((repeat' first | refine hP _ ?_ | fail); try dsimp only)
        refine ⟨fun c => absurd rfl c, fun _ => ?_⟩
        ((repeat' first | refine hP _ ?_ | fail); try dsimp only)
        refine ⟨fun c => ?_, fun c => ?_⟩
        · have q3 : ¬ f (k + 1) = 2 := fun z => c (by rw [z]; rfl)
          rw [if_neg (fun z => q3 z.2.1)] at h0
          ((repeat' first | refine hP _ ?_ | fail); try dsimp only)
          refine ⟨fun _ => ?_, fun c => absurd rfl c⟩
          ((repeat' first | refine hP _ ?_ | fail); try dsimp only)
          exact h0 rfl
        · have q3 : f (k + 1) = 2 := (nI_eq (b := 2) (by omega) (by omega)).mp c
          ((repeat' first | refine hP _ ?_ | fail); try dsimp only)
          refine ⟨fun c => absurd c (by decide), fun _ => ?_⟩
          ((repeat' first | refine hP _ ?_ | fail); try dsimp only)
          rw [show nI k + 2 * 1 = nI (k + 2) from nI_add k 2]
          by_cases q4 : k + 2 < n
          · refine m_stands1 hn hpl hr q4 ?_
            have hk5 := hf (k + 2)
            ((repeat' first | refine hP _ ?_ | fail); try dsimp only)
            by_cases q5 : f (k + 2) = 0
            · rw [q5]
              refine ⟨fun c => absurd rfl c, fun _ => ?_⟩
              ((repeat' first | refine hP _ ?_ | fail); try dsimp only)
              rw [show nI k + 2 * 1 = nI (k + 2) from nI_add k 2]
              exact h1 _ (by rw [if_pos ⟨q4, q3, q5⟩])
            · rw [if_neg (fun z => q5 z.2.2)] at h0
              refine ⟨fun _ => ?_, fun c => absurd ((nI_eq (b := 0) (by omega) (by omega)).mp c) q5⟩
              ((repeat' first | refine hP _ ?_ | fail); try dsimp only)
              exact h0 rfl
          · rw [if_neg (fun z => q4 z.1)] at h0
            refine m_stands0 hpl (Or.inr (nI_le (by omega) (by omega))) ?_
            ((repeat' first | refine hP _ ?_ | refine ⟨fun c1 => absurd c1 (by decide), fun _ => ?_⟩ | refine ⟨fun _ => ?_, fun c1 => absurd c1 (by decide)⟩ | refine ⟨am_vin rfl, ?_⟩ | refine ⟨fun c1 => ?_, fun c1 => ?_⟩ | refine ⟨Or.inr rfl, ?_⟩ | refine ⟨Or.inl rfl, ?_⟩ | fail); all_goals (try dsimp only at *))
            exact h0 rfl
    · rw [if_neg (fun z => q1 z.1), if_neg (fun z => q1 (by omega))] at h0
      refine m_stands0 hpl (Or.inr (nI_le (by omega) (by omega))) ?_
      ((repeat' first | refine hP _ ?_ | refine ⟨fun c1 => absurd c1 (by decide), fun _ => ?_⟩ | refine ⟨fun _ => ?_, fun c1 => absurd c1 (by decide)⟩ | refine ⟨am_vin rfl, ?_⟩ | refine ⟨fun c1 => ?_, fun c1 => ?_⟩ | refine ⟨Or.inr rfl, ?_⟩ | refine ⟨Or.inl rfl, ?_⟩ | fail); all_goals (try dsimp only at *))
      exact h0 rfl
  · rw [e] at h0 h1 ⊢
    simp only [if_neg (show ¬ (2 = 0) by decide), if_neg (show ¬ (2 = 1) by decide)] at h0 h1
    ((repeat' first | refine hP _ ?_ | fail); try dsimp only)
    refine ⟨fun c => absurd c (by decide), fun _ => ?_⟩
    ((repeat' first | refine hP _ ?_ | fail); try dsimp only)
    refine ⟨fun _ => ?_, fun c => absurd c (by decide)⟩
    ((repeat' first | refine hP _ ?_ | fail); try dsimp only)
    refine ⟨fun _ => ?_, fun c => absurd c (by decide)⟩
    ((repeat' first | refine hP _ ?_ | fail); try dsimp only)
    by_cases q1 : 1 ≤ k
    · rw [nIm1 q1]
      refine m_stands1 hn hpl hr (by omega) ?_
      have hk4 := hf (k - 1)
      ((repeat' first | refine hP _ ?_ | fail); try dsimp only)
      by_cases q2 : f (k - 1) = 0
      · rw [q2]
        refine ⟨fun c => absurd rfl c, fun _ => ?_⟩
        ((repeat' first | refine hP _ ?_ | fail); try dsimp only)
        rw [nIm1 q1]
        exact h1 _ (by rw [if_pos ⟨q1, q2⟩])
      · rw [if_neg (fun z => q2 z.2)] at h0 h1
        refine ⟨fun _ => ?_, fun c => absurd ((nI_eq (b := 0) (by omega) (by omega)).mp c) q2⟩
        ((repeat' first | refine hP _ ?_ | fail); try dsimp only)
        refine ⟨fun _ => ?_, fun c => absurd c (by decide)⟩
        ((repeat' first | refine hP _ ?_ | fail); try dsimp only)
        refine ⟨fun c => ?_, fun c => ?_⟩
        · have q3 : ¬ f (k - 1) = 1 := fun z => c (by rw [z]; rfl)
          rw [if_neg (fun z => q3 z.2.1)] at h0
          ((repeat' first | refine hP _ ?_ | fail); try dsimp only)
          refine ⟨fun _ => ?_, fun c => absurd rfl c⟩
          ((repeat' first | refine hP _ ?_ | fail); try dsimp only)
          exact h0 rfl
        · have q3 : f (k - 1) = 1 := (nI_eq (b := 1) (by omega) (by omega)).mp c
          ((repeat' first | refine hP _ ?_ | fail); try dsimp only)
          refine ⟨fun c => absurd c (by decide), fun _ => ?_⟩
          ((repeat' first | refine hP _ ?_ | fail); try dsimp only)
          by_cases q4 : 2 ≤ k
          · rw [nIm2 q4]
            refine m_stands1 hn hpl hr (by omega) ?_
            have hk5 := hf (k - 2)
            ((repeat' first | refine hP _ ?_ | fail); try dsimp only)
            by_cases q5 : f (k - 2) = 0
            · rw [q5]
              refine ⟨fun c => absurd rfl c, fun _ => ?_⟩
              ((repeat' first | refine hP _ ?_ | fail); try dsimp only)
              rw [nIm2 q4]
              exact h1 _ (by rw [if_pos ⟨q4, q3, q5⟩])
            · rw [if_neg (fun z => q5 z.2.2)] at h0
              refine ⟨fun _ => ?_, fun c => absurd ((nI_eq (b := 0) (by omega) (by omega)).mp c) q5⟩
              ((repeat' first | refine hP _ ?_ | fail); try dsimp only)
              exact h0 rfl
          · rw [if_neg (fun z => q4 z.1)] at h0
            have hk1 : k = 1 := by omega
            subst hk1
            refine m_stands0 hpl (Or.inl (by decide)) ?_
            ((repeat' first | refine hP _ ?_ | refine ⟨fun c1 => absurd c1 (by decide), fun _ => ?_⟩ | refine ⟨fun _ => ?_, fun c1 => absurd c1 (by decide)⟩ | refine ⟨am_vin rfl, ?_⟩ | refine ⟨fun c1 => ?_, fun c1 => ?_⟩ | refine ⟨Or.inr rfl, ?_⟩ | refine ⟨Or.inl rfl, ?_⟩ | fail); all_goals (try dsimp only at *))
            exact h0 rfl
    · rw [if_neg (fun z => q1 z.1), if_neg (fun z => q1 (by omega))] at h0
      have hk0 : k = 0 := by omega
      subst hk0
      refine m_stands0 hpl (Or.inl (by decide)) ?_
      ((repeat' first | refine hP _ ?_ | refine ⟨fun c1 => absurd c1 (by decide), fun _ => ?_⟩ | refine ⟨fun _ => ?_, fun c1 => absurd c1 (by decide)⟩ | refine ⟨am_vin rfl, ?_⟩ | refine ⟨fun c1 => ?_, fun c1 => ?_⟩ | refine ⟨Or.inr rfl, ?_⟩ | refine ⟨Or.inl rfl, ?_⟩ | fail); all_goals (try dsimp only at *))
      exact h0 rfl
def b2i (b : Bool) : Int32 := match b with
  | true => 1
  | false => 0
set_option maxRecDepth 100000 in
set_option maxHeartbeats 4000000 in
theorem m_allPassed {n : Nat} {f : Nat → Nat} (hn : n ≤ 9) (hf : ∀ i, f i < 3) (hpl : v 39 3 = nI n) (hr : ∀ i, i < n → v 42 i = nI (f i)) (h : Q (some (.int (b2i (lnT f n 0 false)))) (am_sh, v, w)) : am_run (am_kc L xs) I am_m (d + 1) 29 [.ref 39] (am_sh, v, w) 0 0 Q := by
  refine en_X2_allHavePassed rfl ?_
  intro P hP
  generalize hR : lnT f n 0 false = R at h
  have key : ∀ (k i : Nat) (r : Bool), i + k = n → lnT f k i r = R → P (cd_X2_allHavePassed.drop 4, [some (.ref 39), some (.int (b2i r)), some (.int (nI i))], [], (am_sh, v, w), 0, 0) := by
    intro k
    induction k with
    | zero =>
      intro i r hi hres
      ((repeat' first | refine hP _ ?_ | fail); try dsimp only)
      rw [hpl]
      refine ⟨fun _ => ?_, fun z => absurd (nI_le (show n ≤ i by omega) (by omega)) z⟩
      ((repeat' first | refine hP _ ?_ | fail); try dsimp only)
      rw [← hres] at h
      exact ⟨Or.inr rfl, h⟩
    | succ k ih =>
      intro i r hi hres
      have hf3 := hf i
      unfold lnT at hres
      have mid : ∀ (r' : Bool), r' = (r || Nat.beq (f i) 1) → P (cd_X2_allHavePassed.drop 16, [some (.ref 39), some (.int (b2i r')), some (.int (nI i))], [], (am_sh, v, w), 0, 0) := by
        intro r' hr'
        rw [← hr'] at hres
        ((repeat' first | refine hP _ ?_ | fail); try dsimp only)
        refine ⟨vp_in_nI (by omega) (by omega), ?_⟩
        ((repeat' first | refine hP _ ?_ | fail); try dsimp only)
        rw [nI_clamp (by omega), hr i (by omega)]
        refine ⟨fun c => ?_, fun c => ?_⟩
        · have q : ¬ f i = 2 := fun z => c (by rw [z]; rfl)
          rw [am_bne q] at hres
          have e := ih (i + 1) r' (by omega) (by rw [← hres]; cases r' <;> rfl)
          rw [← nI_1] at e
          ((iterate 2 refine hP _ ?_); try dsimp only)
          exact e
        · have q : f i = 2 := (nI_eq (b := 2) (by omega) (by omega)).mp c
          rw [q, am_beq] at hres
          ((repeat' first | refine hP _ ?_ | fail); try dsimp only)
          cases r' with
          | false =>
            have e := ih (i + 1) false (by omega) hres
            rw [← nI_1] at e
            refine ⟨fun _ => ?_, fun c => absurd rfl c⟩
            ((iterate 2 refine hP _ ?_); try dsimp only)
            exact e
          | true =>
            refine ⟨fun c => absurd c (by decide), fun _ => ?_⟩
            ((repeat' first | refine hP _ ?_ | fail); try dsimp only)
            rw [← hres] at h
            exact ⟨Or.inl rfl, h⟩
      ((repeat' first | refine hP _ ?_ | fail); try dsimp only)
      rw [hpl]
      refine ⟨fun z => absurd z (nI_ge (by omega) (by omega)), fun _ => ?_⟩
      ((repeat' first | refine hP _ ?_ | fail); try dsimp only)
      refine ⟨vp_in_nI (by omega) (by omega), ?_⟩
      ((repeat' first | refine hP _ ?_ | fail); try dsimp only)
      rw [nI_clamp (by omega), hr i (by omega)]
      refine ⟨fun c => ?_, fun c => ?_⟩
      · have q : ¬ f i = 1 := fun z => c (by rw [z]; rfl)
        exact mid r (by rw [am_bne q, Bool.or_false])
      · have q : f i = 1 := (nI_eq (b := 1) (by omega) (by omega)).mp c
        have e := mid true (by rw [q, am_beq, Bool.or_true])
        ((iterate 2 refine hP _ ?_); try dsimp only)
        exact e
  ((iterate 4 refine hP _ ?_); try dsimp only)
  exact key n 0 false (by omega) hR
set_option maxRecDepth 100000 in
set_option maxHeartbeats 4000000 in
theorem m_unpack {n s : Nat} (hn : n ≤ 9) (hs : s < 2 ^ 31) (hpl : v 39 3 = nI n) (h : ∀ v' : am_V, (∀ i, i < n → v' 42 i = nI (lnD s i)) → (∀ k, k ≠ 42 → v' k = v k) → Q none (am_sh, v', w)) : am_run (am_kc L xs) I am_m (d + 1) 33 [.ref 39, .int (nI s)] (am_sh, v, w) 0 0 Q := by
  refine en_X2_unpack rfl ?_
  intro P hP
  have key : ∀ (k i : Nat) (u : am_V), i + k = n → (∀ j, j < i → u 42 j = nI (lnD s j)) → (∀ k, k ≠ 42 → u k = v k) → P (cd_X2_unpack.drop 4, [some (.ref 39), some (.int (nI s)), some (.int (nI (s / 3 ^ i))), some (.int (nI i))], [], (am_sh, u, w), 0, 0) := by
    intro k
    induction k with
    | zero =>
      intro i u hi hu hf
      ((repeat' first | refine hP _ ?_ | fail); try dsimp only)
      rw [show u 39 3 = nI n by rw [hf 39 (by decide)]; exact hpl]
      refine ⟨fun _ => ?_, fun z => absurd (nI_le (show n ≤ i by omega) (by omega)) z⟩
      ((repeat' first | refine hP _ ?_ | fail); try dsimp only)
      exact h u (fun j hj => hu j (by omega)) hf
    | succ k ih =>
      intro i u hi hu hf
      have hd : s / 3 ^ i < 2 ^ 31 := Nat.lt_of_le_of_lt (Nat.div_le_self _ _) hs
      have e := ih (i + 1) (am_up u 42 i (nI (s / 3 ^ i % 3))) (by omega) (fun j hj => by
        rw [am_up_eq]
        by_cases q : j = i
        · rw [if_pos ⟨rfl, q⟩, q]
          rfl
        · rw [if_neg (fun z => q z.2)]
          exact hu j (by omega)) (fun k hk => by rw [am_up_ne _ _ _ hk]; exact hf k hk)
      rw [← nI_1, Nat.pow_succ, ← Nat.div_div_eq_div_mul] at e
      ((repeat' first | refine hP _ ?_ | fail); try dsimp only)
      rw [show u 39 3 = nI n by rw [hf 39 (by decide)]; exact hpl]
      refine ⟨fun z => absurd z (nI_ge (by omega) (by omega)), fun _ => ?_⟩
      ((repeat' first | refine hP _ ?_ | fail); try dsimp only)
      refine ⟨by decide, ?_⟩
      rw [show am_rem (nI (s / 3 ^ i)) 3 = nI (s / 3 ^ i % 3) from pk_rem (d := 3) hd (by decide) (by decide)]
      ((repeat' first | refine hP _ ?_ | fail); try dsimp only)
      refine ⟨vp_in_nI (by omega) (by omega), ?_⟩
      dsimp only
      rw [nI_clamp (by omega)]
      ((repeat' first | refine hP _ ?_ | fail); try dsimp only)
      refine ⟨by decide, ?_⟩
      rw [show nI (s / 3 ^ i) / 3 = nI (s / 3 ^ i / 3) from pk_div (d := 3) hd (by decide) (by decide)]
      ((iterate 3 refine hP _ ?_); try dsimp only)
      exact e
  ((iterate 4 refine hP _ ?_); try dsimp only)
  have e := key n 0 v (by omega) (fun j hj => absurd hj (by omega)) (fun _ _ => rfl)
  rw [Nat.pow_zero, Nat.div_one] at e
  exact e
def lnWf (i : Nat) : Int32 := ((am_kc 0 (fun _ => 0) 1001).getD (0, fun _ => 0)).2 i
theorem lnW : ∀ i, i < 9 → lnWf i = nI (3 ^ i) := by decide
set_option maxRecDepth 100000 in
set_option maxHeartbeats 4000000 in
theorem m_packed {n : Nat} {f : Nat → Nat} (hn : n ≤ 9) (hf : ∀ i, f i < 3) (hpl : v 39 3 = nI n) (hr : ∀ i, i < n → v 42 i = nI (f i)) (h : Q (some (.int (nI (lnS lnPk f n)))) (am_sh, v, w)) : am_run (am_kc L xs) I am_m (d + 1) 32 [.ref 39] (am_sh, v, w) 0 0 Q := by
  refine en_X2_packed rfl ?_
  intro P hP
  have key : ∀ (k i : Nat), i + k = n → P (cd_X2_packed.drop 4, [some (.ref 39), some (.int (nI (lnS lnPk f i))), some (.int (nI i))], [], (am_sh, v, w), 0, 0) := by
    intro k
    induction k with
    | zero =>
      intro i hi
      ((repeat' first | refine hP _ ?_ | fail); try dsimp only)
      rw [hpl]
      refine ⟨fun _ => ?_, fun z => absurd (nI_le (show n ≤ i by omega) (by omega)) z⟩
      ((repeat' first | refine hP _ ?_ | fail); try dsimp only)
      rw [show i = n by omega]
      exact h
    | succ k ih =>
      intro i hi
      have e := ih (i + 1) (by omega)
      rw [← nI_1, lnS, show lnPk i (f i) = 3 ^ i * f i from Nat.mul_comm _ _, ← nI_add, ← pk_mul] at e
      ((repeat' first | refine hP _ ?_ | fail); try dsimp only)
      rw [hpl]
      refine ⟨fun z => absurd z (nI_ge (by omega) (by omega)), fun _ => ?_⟩
      ((repeat' first | refine hP _ ?_ | fail); try dsimp only)
      refine ⟨vp_in_nI (by omega) (by omega), ?_⟩
      have go : P (cd_X2_packed.drop 12, [some (.ref 39), some (.int (nI (lnS lnPk f i))), some (.int (nI i))], [.int (nI (3 ^ i)), .int (nI (lnS lnPk f i))], (am_sh, v, w), 0, 0) := by
        ((repeat' first | refine hP _ ?_ | fail); try dsimp only)
        refine ⟨vp_in_nI (by omega) (by omega), ?_⟩
        dsimp only
        rw [nI_clamp (by omega), hr i (by omega)]
        ((iterate 5 refine hP _ ?_); try dsimp only)
        exact e
      rw [nI_clamp (by omega)]
      rw [← lnW i (by omega)] at go
      exact go
  ((iterate 4 refine hP _ ?_); try dsimp only)
  exact key n 0 (by omega)
set_option maxRecDepth 100000 in
set_option maxHeartbeats 4000000 in
theorem m_readFrom {n tn : Nat} {t : Nat → Nat} (hn : n ≤ 9) (ht : ∀ j, t j < 256) (htn : v 1 1 = nI tn) (htn2 : tn ≤ 260) (hnt : n ≤ tn) (hv : ∀ j, j < tn → v 2 j = nI (t j)) (h1 : ∀ v' : am_V, (∀ j, j < n → lnOk (t j) = true) → v' 39 3 = nI n → (∀ i, i < n → v' 42 i = nI (lnV (t i))) → (∀ k, k ≠ 39 → k ≠ 42 → v' k = v k) → Q (some (.int (-1))) (am_sh, v', w)) (h0 : ∀ (v' : am_V) (j : Nat), j < n → (∀ i, i < j → lnOk (t i) = true) → lnOk (t j) = false → (∀ k, k ≠ 39 → k ≠ 42 → v' k = v k) → Q (some (.int (nI j))) (am_sh, v', w)) : am_run (am_kc L xs) I am_m (d + 2) 25 [.ref 39, .ref 1, .int (nI n)] (am_sh, v, w) 0 0 Q := by
  refine en_X2_readFrom rfl ?_
  intro P hP
  have key : ∀ (k i : Nat) (u : am_V), i + k = n → u 39 3 = nI n → (∀ j, j < i → lnOk (t j) = true) → (∀ j, j < i → u 42 j = nI (lnV (t j))) → (∀ k, k ≠ 39 → k ≠ 42 → u k = v k) → P (cd_X2_readFrom.drop 7, [some (.ref 39), some (.ref 1), some (.int (nI n)), some (.int (nI i))], [], (am_sh, u, w), 0, 0) := by
    intro k
    induction k with
    | zero =>
      intro i u hi h3 hok hrow hf
      ((repeat' first | refine hP _ ?_ | fail); try dsimp only)
      rw [h3]
      refine ⟨fun _ => ?_, fun z => absurd (nI_le (show n ≤ i by omega) (by omega)) z⟩
      ((repeat' first | refine hP _ ?_ | fail); try dsimp only)
      exact h1 u (fun j hj => hok j (by omega)) h3 (fun j hj => hrow j (by omega)) hf
    | succ k ih =>
      intro i u hi h3 hok hrow hf
      have hti := ht i
      have nx : ∀ (x : Nat), lnOk (t i) = true → lnV (t i) = x → P (cd_X2_readFrom.drop 35, [some (.ref 39), some (.ref 1), some (.int (nI n)), some (.int (nI i))], [], (am_sh, am_up u 42 i (nI x), w), 0, 0) := by
        intro x q1 q2
        have e := ih (i + 1) (am_up u 42 i (nI x)) (by omega) (by rw [am_up_ne _ _ _ (by decide)]; exact h3) (fun j hj => by
          by_cases q : j = i
          · rw [q]; exact q1
          · exact hok j (by omega)) (fun j hj => by
          rw [am_up_eq]
          by_cases q : j = i
          · rw [if_pos ⟨rfl, q⟩, q, q2]
          · rw [if_neg (fun z => q z.2)]
            exact hrow j (by omega)) (fun k a b => by rw [am_up_ne _ _ _ b]; exact hf k a b)
        rw [← nI_1] at e
        ((iterate 2 refine hP _ ?_); try dsimp only)
        exact e
      ((repeat' first | refine hP _ ?_ | fail); try dsimp only)
      rw [h3]
      refine ⟨fun z => absurd z (nI_ge (by omega) (by omega)), fun _ => ?_⟩
      ((repeat' first | refine hP _ ?_ | fail); try dsimp only)
      refine m_byteAt (n := tn) (by omega) (by rw [hf 1 (by decide) (by decide)]; exact htn) htn2 ?_
      rw [show u 2 i = nI (t i) by rw [hf 2 (by decide) (by decide)]; exact hv i (by omega)]
      ((repeat' first | refine hP _ ?_ | fail); try dsimp only)
      refine ⟨fun e => ?_, fun e => ⟨fun e2 => ?_, fun e2 => ⟨fun e3 => ?_, fun e3 => ?_⟩⟩⟩
      · have q : t i = 46 := (nI_eq (b := 46) (by omega) (by omega)).mp e
        have e := nx 0 (by rw [q]; rfl) (by rw [q]; rfl)
        ((repeat' first | refine hP _ ?_ | fail); try dsimp only)
        refine ⟨vp_in_nI (by omega) (by omega), ?_⟩
        dsimp only
        rw [nI_clamp (by omega)]
        ((iterate 1 refine hP _ ?_); try dsimp only)
        exact e
      · have q : t i = 60 := (nI_eq (b := 60) (by omega) (by omega)).mp e2
        have e := nx 2 (by rw [q]; rfl) (by rw [q]; rfl)
        ((repeat' first | refine hP _ ?_ | fail); try dsimp only)
        refine ⟨vp_in_nI (by omega) (by omega), ?_⟩
        dsimp only
        rw [nI_clamp (by omega)]
        ((iterate 1 refine hP _ ?_); try dsimp only)
        exact e
      · have q : t i = 62 := (nI_eq (b := 62) (by omega) (by omega)).mp e3
        have e := nx 1 (by rw [q]; rfl) (by rw [q]; rfl)
        ((repeat' first | refine hP _ ?_ | fail); try dsimp only)
        refine ⟨vp_in_nI (by omega) (by omega), ?_⟩
        dsimp only
        rw [nI_clamp (by omega)]
        ((iterate 1 refine hP _ ?_); try dsimp only)
        exact e
      · ((repeat' first | refine hP _ ?_ | fail); try dsimp only)
        refine h0 u i (by omega) hok ?_ hf
        unfold lnOk
        rw [am_bne (fun z => e3 (by rw [z]; rfl)), am_bne (fun z => e2 (by rw [z]; rfl)), am_bne (fun z => e (by rw [z]; rfl))]
        rfl
  have e := key n 0 (am_up v 39 3 (nI n)) (by omega) (by simp [am_up_eq]) (fun j hj => absurd hj (by omega)) (fun j hj => absurd hj (by omega)) (fun k a b => by rw [am_up_ne _ _ _ a])
  have e9 : (if (9 : Int32) < nI n then (9 : Int32) else nI n) = nI n := if_neg (fun z => absurd ((nI_ltI (a := 9) (by omega) (by omega)).mp z) (by omega))
  ((iterate 5 refine hP _ ?_); try dsimp only)
  rw [e9]
  ((iterate 2 refine hP _ ?_); try dsimp only)
  exact e
end M55
