/-! ===== pair: stairs ===== -/
def stF (k : Nat) : Nat → Nat → Int64
  | 0, a => if a = 0 then 1 else 0
  | s + 1, a => (if 1 ≤ a then stF k s (a - 1) else 0) + (if 2 ≤ a then stF k s (a - 2) else 0) + (if k ≤ a then stF k s (a - k) else 0)
def stS (F : Nat → Nat → Int64) (n : Nat) : Nat → Int64
  | 0 => 0
  | s + 1 => stS F n s + F (s + 1) n
def stR (F : Nat → Nat → Int64) (n T : Nat) : Nat → Int64
  | 0 => 0
  | m + 1 => if T = 0 ∨ T = m then stR F n T m + F m n else stR F n T m
theorem stR_0 {F : Nat → Nat → Int64} {n : Nat} (h : F 0 n = 0) : ∀ m, stR F n 0 (m + 1) = stS F n m
  | 0 => by simp [stR, stS, h]
  | m + 1 => by
    rw [stR, stR_0 h m]
    simp [stS]
theorem stR_T {F : Nat → Nat → Int64} {n T : Nat} (hT : 1 ≤ T) : ∀ m, stR F n T m = if T < m then F T n else 0
  | 0 => by simp [stR]
  | m + 1 => by
    rw [stR, stR_T hT m]
    by_cases h : T = m
    · subst h
      have : ¬ T = 0 := by omega
      simp
    · have h1 : ¬ (T = 0 ∨ T = m) := by omega
      rw [if_neg h1]
      by_cases h2 : T < m
      · rw [if_pos h2, if_pos (by omega)]
      · rw [if_neg h2, if_neg (by omega)]
section M33
variable {K : am_K} {I : am_I} {d : Nat} {v : am_V} {w : am_X} {Q : Option Value → am_H → Prop}
set_option maxRecDepth 100000 in
set_option maxHeartbeats 4000000 in
theorem m_fillL {x : Int64} (h : ∀ w' : am_X, (∀ j, j < 41 → w' 61 j = x) → Q none (am_sh, v, w')) : am_run K I am_m (d + 1) 236 [.ref 61, .long x] (am_sh, v, w) 0 0 Q := by
  refine en_J7_fill_d0a16 rfl ?_
  intro P hP
  have key : ∀ (k i : Nat) (u : am_X), i + k = 41 → (∀ j, j < i → u 61 j = x) → P (cd_J7_fill_d0a16.drop 5, [some (.ref 61), some (.long x), none, some (.int (nI i)), some (.int (nI 41))], [], (am_sh, v, u), 0, 0) := by
    intro k
    induction k with
    | zero =>
      intro i u hi hu
      ((repeat' first | refine hP _ ?_ | fail); try dsimp only)
      refine ⟨fun _ => ?_, fun c => absurd (nI_le (show 41 ≤ i by omega) (by omega)) c⟩
      ((repeat' first | refine hP _ ?_ | fail); try dsimp only)
      exact h u (fun j hj => hu j (by omega))
    | succ k ih =>
      intro i u hi hu
      ((repeat' first | refine hP _ ?_ | fail); try dsimp only)
      refine ⟨fun c => absurd c (nI_ge (by omega) (by omega)), fun _ => ?_⟩
      ((repeat' first | refine hP _ ?_ | fail); try dsimp only)
      refine ⟨vp_in_nI (by omega) (by omega), ?_⟩
      dsimp only
      rw [nI_clamp (by omega)]
      have e := ih (i + 1) (am_upX u 61 i x) (by omega) (fun j hj => by
        rw [am_upX_eq]
        by_cases q : j = i
        · simp [q]
        · simp [q]
          exact hu j (by omega))
      rw [← nI_1] at e
      ((iterate 2 refine hP _ ?_); try dsimp only)
      exact e
  ((iterate 5 refine hP _ ?_); try dsimp only)
  exact key 41 0 w rfl (fun j hj => absurd hj (by omega))
set_option maxRecDepth 100000 in
set_option maxHeartbeats 4000000 in
theorem m_ways {a b : Nat} (ha : a ≤ 40) (hb : b ≤ 40) (h : Q (some (.long (if b ≤ a then w 61 (a - b) else 0))) (am_sh, v, w)) : am_run K I am_m (d + 1) 15 [.ref 43, .int (nI a - nI b)] (am_sh, v, w) 0 0 Q := by
  refine en_X0_waysTo rfl ?_
  intro P hP
  by_cases hab : b ≤ a
  · rw [if_pos hab] at h
    rw [pk_sub hab]
    ((repeat' first | refine hP _ ?_ | fail); try dsimp only)
    refine ⟨fun c => absurd c (Int32.not_lt.mpr (nI_pos' (by omega))), fun _ => ?_⟩
    ((repeat' first | refine hP _ ?_ | fail); try dsimp only)
    refine ⟨fun c => absurd c (nI_nlt (a := 40) (by omega) (by omega)), fun _ => ?_⟩
    ((repeat' first | refine hP _ ?_ | fail); try dsimp only)
    refine ⟨vp_in_nI (by omega) (by omega), ?_⟩
    ((repeat' first | refine hP _ ?_ | fail); try dsimp only)
    rw [nI_clamp (by omega)]
    exact h
  · rw [if_neg hab] at h
    ((repeat' first | refine hP _ ?_ | fail); try dsimp only)
    refine ⟨fun _ => ?_, fun c => absurd (Int32.lt_iff_toInt_lt.mpr (by
      rw [Int32.toInt_sub, nI_toInt (by omega), nI_toInt (by omega), show (0 : Int32).toInt = 0 from rfl, Int.bmod_eq_of_le (by omega) (by omega)]
      omega)) c⟩
    ((repeat' first | refine hP _ ?_ | fail); try dsimp only)
    exact h
set_option maxRecDepth 100000 in
set_option maxHeartbeats 4000000 in
theorem m_X0_climb {n k T : Nat} (hn : n ≤ 40) (hk : 3 ≤ k ∧ k ≤ 5) (hT : T ≤ 40) (h : ∀ w' : am_X, Q (some (.long (if T = 0 then stS (stF k) n 40 else stF k T n))) (am_sh, v, w')) : am_run K I am_m (d + 2) 14 [.ref 43, .int (nI n), .int (nI k), .int (nI T)] (am_sh, v, w) 0 0 Q := by
  refine en_X0_climb rfl ?_
  intro P hP
  have inner : ∀ (m s : Nat) (u : am_X) (x : Int32) (sm : Int64), m ≤ 41 → x = nI m + -1 → (∀ j, j ≤ 40 → u 61 j = if m ≤ j then stF k (s + 1) j else stF k s j) → (∀ (u' : am_X) (l7 : Option Value), (∀ j, j ≤ 40 → u' 61 j = stF k (s + 1) j) → P (cd_X0_climb.drop 43, [some (.ref 43), some (.int (nI n)), some (.int (nI k)), some (.int (nI T)), some (.long sm), none, some (.int (nI (s + 1))), l7], [], (am_sh, v, u'), 0, 0)) → P (cd_X0_climb.drop 18, [some (.ref 43), some (.int (nI n)), some (.int (nI k)), some (.int (nI T)), some (.long sm), none, some (.int (nI (s + 1))), some (.int x)], [], (am_sh, v, u), 0, 0) := by
    intro m
    induction m with
    | zero =>
      intro s u x sm hm hx hu kk
      subst hx
      ((repeat' first | refine hP _ ?_ | fail); try dsimp only)
      refine ⟨fun _ => ?_, fun c => absurd (by decide) c⟩
      exact kk u _ (fun j hj => by rw [hu j hj, if_pos (Nat.zero_le _)])
    | succ m ih =>
      intro s u x sm hm hx hu kk
      have hx2 : x = nI m := by rw [hx, ← nI_1, Int32.add_assoc, show (1 + -1 : Int32) = 0 from rfl, Int32.add_zero]
      subst hx2
      have e1 : nI m - 1 = nI m - nI 1 := rfl
      have e2 : nI m - 2 = nI m - nI 2 := rfl
      ((repeat' first | refine hP _ ?_ | fail); try dsimp only)
      refine ⟨fun c => absurd c (Int32.not_lt.mpr (nI_pos' (by omega))), fun _ => ?_⟩
      ((repeat' first | refine hP _ ?_ | fail); try dsimp only)
      rw [e1]
      refine m_ways (by omega) (by omega) ?_
      ((repeat' first | refine hP _ ?_ | fail); try dsimp only)
      rw [e2]
      refine m_ways (by omega) (by omega) ?_
      ((repeat' first | refine hP _ ?_ | fail); try dsimp only)
      refine m_ways (by omega) (by omega) ?_
      ((repeat' first | refine hP _ ?_ | fail); try dsimp only)
      refine ⟨vp_in_nI (by omega) (by omega), ?_⟩
      dsimp only
      rw [nI_clamp (by omega)]
      have hval : (if 1 ≤ m then u 61 (m - 1) else 0) + (if 2 ≤ m then u 61 (m - 2) else 0) + (if k ≤ m then u 61 (m - k) else 0) = stF k (s + 1) m := by
        have g : ∀ b, 1 ≤ b → (if b ≤ m then u 61 (m - b) else 0) = (if b ≤ m then stF k s (m - b) else 0) := by
          intro b hb
          by_cases q : b ≤ m
          · rw [if_pos q, if_pos q, hu _ (by omega), if_neg (by omega)]
          · rw [if_neg q, if_neg q]
        rw [g 1 (by omega), g 2 (by omega), g k (by omega), stF]
      rw [hval]
      have e := ih s (am_upX u 61 m (stF k (s + 1) m)) (nI m + -1) sm (by omega) rfl (fun j hj => by
        rw [am_upX_eq]
        by_cases q : j = m
        · subst q
          simp
        · have hh := hu j hj
          by_cases q2 : m + 1 ≤ j
          · rw [if_pos q2] at hh
            rw [if_pos (show m ≤ j by omega)]
            simp [q, hh]
          · rw [if_neg q2] at hh
            rw [if_neg (show ¬ m ≤ j by omega)]
            simp [q, hh]) kk
      ((iterate 2 refine hP _ ?_); try dsimp only)
      exact e
  have en : nI n = nI n - nI 0 := by rw [pk_sub (Nat.zero_le _)]; rfl
  have outer : ∀ (r s : Nat) (u : am_X) (l7 : Option Value), s + r = 40 → (T = 0 ∨ s < T) → (∀ j, j ≤ 40 → u 61 j = stF k s j) → P (cd_X0_climb.drop 13, [some (.ref 43), some (.int (nI n)), some (.int (nI k)), some (.int (nI T)), some (.long (stS (stF k) n s)), none, some (.int (nI (s + 1))), l7], [], (am_sh, v, u), 0, 0) := by
    intro r
    induction r with
    | zero =>
      intro s u l7 hs hT2 hu
      ((repeat' first | refine hP _ ?_ | fail); try dsimp only)
      refine ⟨fun _ => ?_, fun c => absurd (nI_lt (a := 40) (show 40 < s + 1 by omega) (by omega)) c⟩
      ((repeat' first | refine hP _ ?_ | fail); try dsimp only)
      have hh := h u
      rw [if_pos (by omega)] at hh
      rw [show s = 40 by omega]
      exact hh
    | succ r ih =>
      intro s u l7 hs hT2 hu
      ((repeat' first | refine hP _ ?_ | fail); try dsimp only)
      refine ⟨fun c => absurd c (nI_nlt (b := s + 1) (a := 40) (by omega) (by omega)), fun _ => ?_⟩
      ((iterate 2 refine hP _ ?_); try dsimp only)
      refine inner 41 s u 40 (stS (stF k) n s) (by omega) rfl (fun j hj => by rw [if_neg (by omega)]; exact hu j hj) (fun u' l72 hu' => ?_)
      ((repeat' first | refine hP _ ?_ | fail); try dsimp only)
      refine ⟨fun c => ?_, fun c => ?_⟩
      · ((repeat' first | refine hP _ ?_ | fail); try dsimp only)
        rw [en]
        refine m_ways hn (by omega) ?_
        rw [if_pos (Nat.zero_le _), Nat.sub_zero, hu' n hn, ← en]
        have e := ih (s + 1) u' l72 (by omega) (by
          rcases hT2 with q | q
          · exact Or.inl q
          · refine Or.inr ?_
            rcases Nat.lt_or_ge (s + 1) T with z | z
            · exact z
            · exact absurd (by rw [show s + 1 = T by omega]) c) hu'
        rw [stS, ← nI_1 (s + 1)] at e
        ((iterate 4 refine hP _ ?_); try dsimp only)
        exact e
      · have hTs : s + 1 = T := (nI_eq (by omega) (by omega)).mp c
        ((repeat' first | refine hP _ ?_ | fail); try dsimp only)
        rw [en]
        refine m_ways hn (by omega) ?_
        rw [if_pos (Nat.zero_le _), Nat.sub_zero, hu' n hn]
        have hh := h u'
        rw [if_neg (by omega), ← hTs] at hh
        ((repeat' first | refine hP _ ?_ | fail); try dsimp only)
        exact hh
  ((repeat' first | refine hP _ ?_ | fail); try dsimp only)
  refine m_fillL (fun w' hw' => ?_)
  ((repeat' first | refine hP _ ?_ | fail); try dsimp only)
  refine ⟨am_vin rfl, ?_⟩
  have e := outer 40 0 (am_upX w' 61 0 1) none rfl (by omega) (fun j hj => by
    rw [am_upX_eq, stF]
    by_cases q : j = 0
    · simp [q]
    · simp [q]
      exact hw' j (by omega))
  ((iterate 4 refine hP _ ?_); try dsimp only)
  exact e
end M33
section M33b
variable {K : am_K} {I : am_I} {Tc : am_T} {v : am_V} {w : am_X} {Q : Option Value → am_H → Prop} {P : am_C → Prop}
set_option maxRecDepth 100000 in
set_option maxHeartbeats 4000000 in
theorem lp_stairs2 {n k T : Nat} (hn : 1 ≤ n ∧ n ≤ 40) (hk : 3 ≤ k ∧ k ≤ 5) (hT : T ≤ 40) (hP : ∀ c, am_step K I Tc cd_X12_stairs 0 0 Q P c → P c) (h : ∀ w' : am_X, Q (some (.long (stR (stF k) n T 41))) (am_sh, v, w')) : P (cd_X12_stairs.drop 21, [some (.ref 62), some (.int (nI n)), some (.int (nI k)), some (.int (nI T)), some (.long 0), none, some (.int 0), none, none, none], [], (am_sh, v, w), 0, 0) := by
  have i41 : ∀ s : Nat, 41 * nI s = nI (41 * s) := fun s => pk_mul 41 s
  -- one place of a row: what is laid there
  have one : ∀ (s a : Nat) (u : am_X) (sm : Int64) (l8 l9 : Option Value), s ≤ 40 → a ≤ n → (∀ s' a', s' < s → a' ≤ n → u 104 (41 * s' + a') = stF k s' a') → P (cd_X12_stairs.drop 26, [some (.ref 62), some (.int (nI n)), some (.int (nI k)), some (.int (nI T)), some (.long sm), none, some (.int (nI s)), some (.int (nI a + 1)), some (.long (stF k s a)), none], [], (am_sh, v, am_upX u 104 (41 * s + a) (stF k s a)), 0, 0) → P (cd_X12_stairs.drop 29, [some (.ref 62), some (.int (nI n)), some (.int (nI k)), some (.int (nI T)), some (.long sm), none, some (.int (nI s)), some (.int (nI a)), l8, l9], [], (am_sh, v, u), 0, 0) := by
    intro s a u sm l8 l9 hs ha hu kk
    -- the end: the store
    have fin : ∀ x : Int64, x = stF k s a → P (cd_X12_stairs.drop 97, [some (.ref 62), some (.int (nI n)), some (.int (nI k)), some (.int (nI T)), some (.long sm), none, some (.int (nI s)), some (.int (nI a)), some (.long x), none], [], (am_sh, v, u), 0, 0) := by
      intro x hx
      subst hx
      ((repeat' first | refine hP _ ?_ | fail); try dsimp only)
      rw [i41, nI_add]
      refine ⟨vp_in_nI (by omega) (by omega), ?_⟩
      dsimp only
      rw [nI_clamp (by omega)]
      ((iterate 2 refine hP _ ?_); try dsimp only)
      exact kk
    cases s with
    | zero =>
      ((repeat' first | refine hP _ ?_ | fail); try dsimp only)
      refine ⟨fun c => absurd rfl c, fun _ => ?_⟩
      ((repeat' first | refine hP _ ?_ | fail); try dsimp only)
      refine ⟨fun c => ?_, fun c => ?_⟩
      · ((repeat' first | refine hP _ ?_ | fail); try dsimp only)
        refine ⟨fun _ => ?_, fun c => absurd (by decide) c⟩
        ((repeat' first | refine hP _ ?_ | fail); try dsimp only)
        refine ⟨fun _ => ?_, fun c => absurd (by decide) c⟩
        ((repeat' first | refine hP _ ?_ | fail); try dsimp only)
        refine ⟨fun _ => ?_, fun c => absurd (by decide) c⟩
        refine fin _ ?_
        rw [stF, if_neg (fun q => c (by rw [q]; rfl))]
        rfl
      · have ha0 : a = 0 := (nI_eq (b := 0) (by omega) (by omega)).mp c
        ((repeat' first | refine hP _ ?_ | fail); try dsimp only)
        refine ⟨fun _ => ?_, fun c => absurd (by decide) c⟩
        ((repeat' first | refine hP _ ?_ | fail); try dsimp only)
        refine ⟨fun _ => ?_, fun c => absurd (by decide) c⟩
        ((repeat' first | refine hP _ ?_ | fail); try dsimp only)
        refine ⟨fun _ => ?_, fun c => absurd (by decide) c⟩
        refine fin _ ?_
        rw [stF, if_pos ha0]
        rfl
    | succ s =>
      have es : nI (s + 1) - 1 = nI s := pk_sub (a := s + 1) (b := 1) (by omega)
      have pos : ¬ nI (s + 1) ≤ 0 := nI_nle (by omega) (by omega)
      have ix : ∀ b : Nat, b ≤ a → nI (41 * s) + nI a - nI b = nI (41 * s + (a - b)) := fun b hb => by
        rw [nI_add, pk_sub (by omega)]
        congr 1
        omega
      have rd : ∀ b : Nat, 1 ≤ b → b ≤ a → u 104 (41 * s + (a - b)) = stF k s (a - b) := fun b h1 h2 => hu s (a - b) (by omega) (by omega)
      -- third
      have third : ∀ x : Int64, x = (if 1 ≤ a then stF k s (a - 1) else 0) + (if 2 ≤ a then stF k s (a - 2) else 0) → P (cd_X12_stairs.drop 77, [some (.ref 62), some (.int (nI n)), some (.int (nI k)), some (.int (nI T)), some (.long sm), none, some (.int (nI (s + 1))), some (.int (nI a)), some (.long x), none], [], (am_sh, v, u), 0, 0) := by
        intro x hx
        ((repeat' first | refine hP _ ?_ | fail); try dsimp only)
        refine ⟨fun c => absurd c pos, fun _ => ?_⟩
        ((repeat' first | refine hP _ ?_ | fail); try dsimp only)
        refine ⟨fun c => ?_, fun c => ?_⟩
        · refine fin x ?_
          rw [hx, stF, if_neg (show ¬ k ≤ a from fun q => absurd ((nI_ltI (by omega) (by omega)).mp c) (by omega)), Int64.add_zero]
        · have hka : k ≤ a := by
            rcases Nat.lt_or_ge a k with q | q
            · exact absurd (nI_lt q (by omega)) c
            · exact q
          ((repeat' first | refine hP _ ?_ | fail); try dsimp only)
          rw [es, i41, ix k hka]
          refine ⟨vp_in_nI (by omega) (by omega), ?_⟩
          dsimp only
          rw [nI_clamp (by omega), rd k (by omega) hka]
          ((iterate 2 refine hP _ ?_); try dsimp only)
          refine fin _ ?_
          rw [hx, stF, if_pos hka]
      -- second
      have second : ∀ x : Int64, x = (if 1 ≤ a then stF k s (a - 1) else 0) → P (cd_X12_stairs.drop 57, [some (.ref 62), some (.int (nI n)), some (.int (nI k)), some (.int (nI T)), some (.long sm), none, some (.int (nI (s + 1))), some (.int (nI a)), some (.long x), none], [], (am_sh, v, u), 0, 0) := by
        intro x hx
        ((repeat' first | refine hP _ ?_ | fail); try dsimp only)
        refine ⟨fun c => absurd c pos, fun _ => ?_⟩
        ((repeat' first | refine hP _ ?_ | fail); try dsimp only)
        refine ⟨fun c => ?_, fun c => ?_⟩
        · refine third x ?_
          rw [hx, if_neg (show ¬ 2 ≤ a from fun q => absurd ((nI_ltI (b := 2) (by omega) (by omega)).mp c) (by omega)), Int64.add_zero]
        · have hka : 2 ≤ a := by
            rcases Nat.lt_or_ge a 2 with q | q
            · exact absurd (nI_lt q (by omega)) c
            · exact q
          ((repeat' first | refine hP _ ?_ | fail); try dsimp only)
          rw [es, i41]
          have e2 := ix 2 hka
          rw [show nI 2 = 2 from rfl] at e2
          rw [e2]
          refine ⟨vp_in_nI (by omega) (by omega), ?_⟩
          dsimp only
          rw [nI_clamp (by omega), rd 2 (by omega) hka]
          ((iterate 2 refine hP _ ?_); try dsimp only)
          refine third _ ?_
          rw [hx, if_pos hka]
      ((repeat' first | refine hP _ ?_ | fail); try dsimp only)
      refine ⟨fun _ => ?_, fun c => absurd ((nI_eq (b := 0) (by omega) (by omega)).mp c) (by omega)⟩
      ((repeat' first | refine hP _ ?_ | fail); try dsimp only)
      refine ⟨fun c => absurd c pos, fun _ => ?_⟩
      ((repeat' first | refine hP _ ?_ | fail); try dsimp only)
      refine ⟨fun c => ?_, fun c => ?_⟩
      · refine second _ ?_
        rw [if_neg (show ¬ 1 ≤ a from fun q => absurd ((nI_ltI (b := 1) (by omega) (by omega)).mp c) (by omega))]
        rfl
      · have hka : 1 ≤ a := by
          rcases Nat.lt_or_ge a 1 with q | q
          · exact absurd (nI_lt q (by omega)) c
          · exact q
        ((repeat' first | refine hP _ ?_ | fail); try dsimp only)
        rw [es, i41]
        have e1 := ix 1 hka
        rw [show nI 1 = 1 from rfl] at e1
        rw [e1]
        refine ⟨vp_in_nI (by omega) (by omega), ?_⟩
        dsimp only
        rw [nI_clamp (by omega), rd 1 (by omega) hka]
        ((iterate 2 refine hP _ ?_); try dsimp only)
        refine second _ ?_
        rw [if_pos hka]
        exact Int64.zero_add _
  -- a row
  have row : ∀ (q s a : Nat) (u : am_X) (sm : Int64) (l8 l9 : Option Value), s ≤ 40 → a + q = n + 1 → (∀ s' a', s' < s → a' ≤ n → u 104 (41 * s' + a') = stF k s' a') → (∀ a', a' < a → u 104 (41 * s + a') = stF k s a') → (∀ (u' : am_X) (l7 l8 l9 : Option Value), (∀ s' a', s' < s + 1 → a' ≤ n → u' 104 (41 * s' + a') = stF k s' a') → P (cd_X12_stairs.drop 108, [some (.ref 62), some (.int (nI n)), some (.int (nI k)), some (.int (nI T)), some (.long sm), none, some (.int (nI s)), l7, l8, l9], [], (am_sh, v, u'), 0, 0)) → P (cd_X12_stairs.drop 26, [some (.ref 62), some (.int (nI n)), some (.int (nI k)), some (.int (nI T)), some (.long sm), none, some (.int (nI s)), some (.int (nI a)), l8, l9], [], (am_sh, v, u), 0, 0) := by
    intro q
    induction q with
    | zero =>
      intro s a u sm l8 l9 hs ha h1 h2 kk
      ((repeat' first | refine hP _ ?_ | fail); try dsimp only)
      refine ⟨fun _ => ?_, fun c => absurd (nI_lt (show n < a by omega) (by omega)) c⟩
      refine kk u _ _ _ (fun s' a' z1 z2 => ?_)
      rcases Nat.lt_or_ge s' s with z | z
      · exact h1 s' a' z z2
      · rw [show s' = s by omega]
        exact h2 a' (by omega)
    | succ q ih =>
      intro s a u sm l8 l9 hs ha h1 h2 kk
      ((repeat' first | refine hP _ ?_ | fail); try dsimp only)
      refine ⟨fun c => absurd c (nI_nlt (by omega) (by omega)), fun _ => ?_⟩
      refine one s a u sm l8 l9 hs (by omega) h1 ?_
      have e := ih s (a + 1) (am_upX u 104 (41 * s + a) (stF k s a)) sm (some (.long (stF k s a))) none hs (by omega) (fun s' a' z1 z2 => by
        rw [am_upX_eq, if_neg (by omega)]
        exact h1 s' a' z1 z2) (fun a' z => by
        rw [am_upX_eq]
        by_cases y : a' = a
        · rw [if_pos ⟨rfl, by omega⟩, y]
        · rw [if_neg (by omega)]
          exact h2 a' (by omega)) kk
      rw [← nI_1] at e
      exact e
  have outer : ∀ (q s : Nat) (u : am_X) (l7 l8 l9 : Option Value), s + q = 41 → (∀ s' a', s' < s → a' ≤ n → u 104 (41 * s' + a') = stF k s' a') → P (cd_X12_stairs.drop 21, [some (.ref 62), some (.int (nI n)), some (.int (nI k)), some (.int (nI T)), some (.long (stR (stF k) n T s)), none, some (.int (nI s)), l7, l8, l9], [], (am_sh, v, u), 0, 0) := by
    intro q
    induction q with
    | zero =>
      intro s u l7 l8 l9 hs hu
      ((repeat' first | refine hP _ ?_ | fail); try dsimp only)
      refine ⟨fun _ => ?_, fun c => absurd (nI_lt (a := 40) (show 40 < s by omega) (by omega)) c⟩
      ((repeat' first | refine hP _ ?_ | fail); try dsimp only)
      rw [show s = 41 by omega]
      exact h u
    | succ q ih =>
      intro s u l7 l8 l9 hs hu
      ((repeat' first | refine hP _ ?_ | fail); try dsimp only)
      refine ⟨fun c => absurd c (nI_nlt (b := s) (a := 40) (by omega) (by omega)), fun _ => ?_⟩
      ((iterate 2 refine hP _ ?_); try dsimp only)
      refine row (n + 1) s 0 u _ l8 l9 (by omega) (by omega) hu (fun a' z => absurd z (by omega)) (fun u' m7 m8 m9 hu' => ?_)
      have e := ih (s + 1) u' m7 m8 m9 (by omega) hu'
      rw [← nI_1, stR] at e
      have take : P (cd_X12_stairs.drop 113, [some (.ref 62), some (.int (nI n)), some (.int (nI k)), some (.int (nI T)), some (.long (stR (stF k) n T s)), none, some (.int (nI s)), m7, m8, m9], [], (am_sh, v, u'), 0, 0) ∨ ¬ (T = 0 ∨ T = s) := by
        by_cases z : T = 0 ∨ T = s
        · left
          rw [if_pos z] at e
          ((repeat' first | refine hP _ ?_ | fail); try dsimp only)
          rw [i41, nI_add]
          refine ⟨vp_in_nI (by omega) (by omega), ?_⟩
          dsimp only
          rw [nI_clamp (by omega), hu' s n (by omega) (by omega)]
          ((iterate 4 refine hP _ ?_); try dsimp only)
          exact e
        · exact Or.inr z
      ((repeat' first | refine hP _ ?_ | fail); try dsimp only)
      refine ⟨fun c => ?_, fun c => ?_⟩
      · have hT0 : T = 0 := (nI_eq (b := 0) (by omega) (by omega)).mp c
        rcases take with t | t
        · exact t
        · exact absurd (Or.inl hT0) t
      · have hT0 : ¬ T = 0 := fun z => c (by rw [z]; rfl)
        ((repeat' first | refine hP _ ?_ | fail); try dsimp only)
        refine ⟨fun c2 => ?_, fun c2 => ?_⟩
        · have : ¬ (T = 0 ∨ T = s) := by
            intro z
            rcases z with z | z
            · exact hT0 z
            · exact c2 (by rw [z])
          rw [if_neg this] at e
          ((iterate 2 refine hP _ ?_); try dsimp only)
          exact e
        · have hTs : T = s := (nI_eq (by omega) (by omega)).mp c2
          rcases take with t | t
          · exact t
          · exact absurd (Or.inr hTs) t
  exact outer 41 0 w none none none rfl (fun s' a' z => absurd z (by omega))
end M33b
