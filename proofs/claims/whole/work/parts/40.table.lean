/-! ===== table: rows of seats ===== -/
def nsI (f : Nat → Nat) : Nat → Option Nat
  | 0 => if f 1 < f 0 then none else some 0
  | i + 1 => if f (i + 2) < f (i + 1) then nsI f i else some (i + 1)
def nsJ (f : Nat → Nat) (x : Nat) : Nat → Nat
  | 0 => 0
  | j + 1 => if f (j + 1) < x then nsJ f x j else j + 1
def swp (f : Nat → Nat) (i j : Nat) : Nat → Nat := fun k => if k = j then f i else if k = i then f j else f k
def nsR : Nat → (Nat → Nat) → Nat → Nat → (Nat → Nat)
  | 0, f, _, _ => f
  | q + 1, f, a, b => if a < b then nsR q (swp f a b) (a + 1) (b - 1) else f
def nsN (n : Nat) (f : Nat → Nat) : Option (Nat → Nat) := match nsI f (n - 2) with
  | none => none
  | some i => some (nsR n (swp f i (nsJ f (f i) (n - 1))) (i + 1) (n - 1))
/-- a row of seats in a cell -/
def seR (v : am_V) (c n : Nat) (f : Nat → Nat) : Prop := ∀ i, i < n → v c i = nI (f i) ∧ f i ≤ 5
theorem nsI_le {f : Nat → Nat} : ∀ {k i : Nat}, nsI f k = some i → i ≤ k ∧ f i ≤ f (i + 1)
  | 0, i, h => by
    unfold nsI at h
    split at h
    · cases h
    · rename_i hlt
      cases h
      exact ⟨Nat.le_refl _, Nat.not_lt.mp hlt⟩
  | k + 1, i, h => by
    unfold nsI at h
    split at h
    · have := nsI_le h
      exact ⟨by omega, this.2⟩
    · rename_i hlt
      cases h
      exact ⟨Nat.le_refl _, Nat.not_lt.mp hlt⟩
theorem nsJ_ge {f : Nat → Nat} {x t : Nat} (ht : x ≤ f t) : ∀ {j : Nat}, t ≤ j → t ≤ nsJ f x j ∧ nsJ f x j ≤ j
  | 0, h => by
    have : t = 0 := by omega
    subst this
    exact ⟨Nat.le_refl _, Nat.le_refl _⟩
  | j + 1, h => by
    unfold nsJ
    split
    · rename_i hlt
      have h2 : t ≤ j := by
        rcases Nat.lt_or_ge j t with z | z
        · exfalso
          rw [show t = j + 1 by omega] at ht
          omega
        · exact z
      have := nsJ_ge ht h2
      exact ⟨this.1, by omega⟩
    · exact ⟨h, Nat.le_refl _⟩
theorem seR_swp {v : am_V} {c n i j : Nat} {f : Nat → Nat} (h : seR v c n f) (hi : i < n) (hj : j < n) : seR (am_up (am_up v c i (v c j)) c j (v c i)) c n (swp f i j) := by
  intro k hk
  simp only [am_up_eq, swp]
  by_cases h1 : k = j
  · subst h1
    simp
    exact h i hi
  · by_cases h2 : k = i
    · subst h2
      simp [h1]
      exact h j hj
    · simp [h1, h2]
      exact h k hk
section M40
variable {K : am_K} {I : am_I} {d : Nat} {v : am_V} {w : am_X} {Q : Option Value → am_H → Prop}
set_option maxRecDepth 100000 in
set_option maxHeartbeats 4000000 in
theorem m_swapC {n i j : Nat} (hn : n ≤ 6) (hi : i < n) (hj : j < n) (h : Q none (am_sh, am_up (am_up v 59 i (v 59 j)) 59 j (v 59 i), w)) : am_run K I am_m (d + 1) 12 [.ref 43, .int (nI i), .int (nI j)] (am_sh, v, w) 0 0 Q := by
  refine en_X0_swapSeats rfl ?_
  intro P hP
  ((repeat' first | refine hP _ ?_ | fail); try dsimp only)
  refine ⟨vp_in_nI (by omega) (by omega), ?_⟩
  ((repeat' first | refine hP _ ?_ | fail); try dsimp only)
  refine ⟨vp_in_nI (by omega) (by omega), ?_⟩
  ((repeat' first | refine hP _ ?_ | fail); try dsimp only)
  refine ⟨vp_in_nI (by omega) (by omega), ?_⟩
  ((repeat' first | refine hP _ ?_ | fail); try dsimp only)
  refine ⟨vp_in_nI (by omega) (by omega), ?_⟩
  ((repeat' first | refine hP _ ?_ | fail); try dsimp only)
  rw [nI_clamp (by omega), nI_clamp (by omega)]
  exact h
set_option maxRecDepth 100000 in
set_option maxHeartbeats 4000000 in
theorem m_swapR {n i j : Nat} (hn : n ≤ 6) (hi : i < n) (hj : j < n) (h : Q none (am_sh, am_up (am_up v 102 i (v 102 j)) 102 j (v 102 i), w)) : am_run K I am_m (d + 1) 222 [.ref 62, .int (nI i), .int (nI j)] (am_sh, v, w) 0 0 Q := by
  refine en_X12_changesSeats rfl ?_
  intro P hP
  ((repeat' first | refine hP _ ?_ | fail); try dsimp only)
  refine ⟨vp_in_nI (by omega) (by omega), ?_⟩
  ((repeat' first | refine hP _ ?_ | fail); try dsimp only)
  refine ⟨vp_in_nI (by omega) (by omega), ?_⟩
  ((repeat' first | refine hP _ ?_ | fail); try dsimp only)
  refine ⟨vp_in_nI (by omega) (by omega), ?_⟩
  ((repeat' first | refine hP _ ?_ | fail); try dsimp only)
  refine ⟨vp_in_nI (by omega) (by omega), ?_⟩
  ((repeat' first | refine hP _ ?_ | fail); try dsimp only)
  rw [nI_clamp (by omega), nI_clamp (by omega)]
  exact h
set_option maxRecDepth 100000 in
set_option maxHeartbeats 4000000 in
theorem m_nextC {n : Nat} {f : Nat → Nat} (hn : 2 ≤ n ∧ n ≤ 6) (hs : seR v 59 n f) (h0 : nsN n f = none → Q (some (.int 0)) (am_sh, v, w)) (h1 : ∀ (g : Nat → Nat) (v' : am_V), nsN n f = some g → seR v' 59 n g → (∀ k, k ≠ 59 → v' k = v k) → Q (some (.int 1)) (am_sh, v', w)) : am_run K I am_m (d + 2) 11 [.ref 43, .int (nI n)] (am_sh, v, w) 0 0 Q := by
  refine en_X0_goesToNextRow rfl ?_
  intro P hP
  have rd : ∀ i, i < n → v 59 i = nI (f i) := fun i hi => (hs i hi).1
  have bd : ∀ i, i < n → f i ≤ 5 := fun i hi => (hs i hi).2
  -- the third loop
  have key3 : ∀ (q a b : Nat) (g : Nat → Nat) (u : am_V) (x3 x4 : Int32), a ≤ n → b < n → b < a + q → seR u 59 n g → (∀ k, k ≠ 59 → u k = v k) → nsN n f = some (nsR q g a b) → P (cd_X0_goesToNextRow.drop 57, [some (.ref 43), some (.int (nI n)), some (.int (nI (n - 1))), some (.int x3), some (.int x4), some (.int (nI a)), some (.int (nI b))], [], (am_sh, u, w), 0, 0) := by
    intro q
    induction q with
    | zero =>
      intro a b g u x3 x4 ha hb hq hg hfr hnn
      ((repeat' first | refine hP _ ?_ | fail); try dsimp only)
      refine ⟨fun _ => ?_, fun z => absurd (nI_le (show b ≤ a by omega) (by omega)) z⟩
      ((repeat' first | refine hP _ ?_ | fail); try dsimp only)
      exact ⟨Or.inr rfl, h1 _ u hnn hg hfr⟩
    | succ q ih =>
      intro a b g u x3 x4 ha hb hq hg hfr hnn
      unfold nsR at hnn
      ((repeat' first | refine hP _ ?_ | fail); try dsimp only)
      refine ⟨fun z => ?_, fun z => ?_⟩
      · have : ¬ a < b := by
          have := (nI_leI (by omega) (by omega)).mp z
          omega
        rw [if_neg this] at hnn
        ((repeat' first | refine hP _ ?_ | fail); try dsimp only)
        exact ⟨Or.inr rfl, h1 _ u hnn hg hfr⟩
      · have hab : a < b := by
          rcases Nat.lt_or_ge a b with y | y
          · exact y
          · exact absurd (nI_le y (by omega)) z
        rw [if_pos hab] at hnn
        ((repeat' first | refine hP _ ?_ | fail); try dsimp only)
        refine m_swapC hn.2 (by omega) hb ?_
        have e := ih (a + 1) (b - 1) _ _ x3 x4 (by omega) (by omega) (by omega) (seR_swp hg (show a < n by omega) hb) (fun k hk => by rw [am_up_ne _ _ _ hk, am_up_ne _ _ _ hk]; exact hfr k hk) hnn
        have e9 : nI (b - 1) = nI b + -1 := by
          rw [show b = (b - 1) + 1 by omega, ← nI_1, Int32.add_assoc, show (1 + -1 : Int32) = 0 from rfl, Int32.add_zero, show b - 1 + 1 - 1 = b - 1 by omega]
        rw [← nI_1, e9] at e
        ((iterate 3 refine hP _ ?_); try dsimp only)
        exact e
  -- the second loop
  have key2 : ∀ (i : Nat), i ≤ n - 2 → nsI f (n - 2) = some i → ∀ (k j : Nat), j = i + 1 + k → j < n → nsJ f (f i) j = nsJ f (f i) (n - 1) → P (cd_X0_goesToNextRow.drop 31, [some (.ref 43), some (.int (nI n)), some (.int (nI (n - 1))), some (.int (nI i)), some (.int (nI j)), none, none], [], (am_sh, v, w), 0, 0) := by
    intro i hi hni k
    have hif := nsI_le hni
    have fin : ∀ j, i + 1 ≤ j → j < n → nsJ f (f i) (n - 1) = j → P (cd_X0_goesToNextRow.drop 47, [some (.ref 43), some (.int (nI n)), some (.int (nI (n - 1))), some (.int (nI i)), some (.int (nI j)), none, none], [], (am_sh, v, w), 0, 0) := by
      intro j hj1 hj2 hj3
      ((repeat' first | refine hP _ ?_ | fail); try dsimp only)
      refine m_swapC hn.2 (show i < n by omega) hj2 ?_
      have e := key3 n (i + 1) (n - 1) _ _ (nI i) (nI j) (by omega) (by omega) (by omega) (seR_swp hs (show i < n by omega) hj2) (fun k hk => by rw [am_up_ne _ _ _ hk, am_up_ne _ _ _ hk]) (by unfold nsN; rw [hni]; dsimp only; rw [hj3])
      rw [← nI_1] at e
      ((iterate 6 refine hP _ ?_); try dsimp only)
      exact e
    induction k with
    | zero =>
      intro j hj hjn hjj
      ((repeat' first | refine hP _ ?_ | fail); try dsimp only)
      rw [nI_1]
      refine ⟨fun _ => ?_, fun z => absurd (nI_le (show j ≤ i + 1 by omega) (by omega)) z⟩
      refine fin j (by omega) hjn ?_
      rw [← hjj, hj]
      unfold nsJ
      rw [if_neg (by rw [Nat.add_zero]; omega)]
    | succ k ih =>
      intro j hj hjn hjj
      ((repeat' first | refine hP _ ?_ | fail); try dsimp only)
      rw [nI_1]
      refine ⟨fun z => absurd ((nI_leI (by omega) (by omega)).mp z) (by omega), fun _ => ?_⟩
      ((repeat' first | refine hP _ ?_ | fail); try dsimp only)
      refine ⟨vp_in_nI (by omega) (by omega), ?_⟩
      ((repeat' first | refine hP _ ?_ | fail); try dsimp only)
      refine ⟨vp_in_nI (by omega) (by omega), ?_⟩
      ((repeat' first | refine hP _ ?_ | fail); try dsimp only)
      rw [nI_clamp (by omega), nI_clamp (by omega), rd j hjn, rd i (by omega)]
      have b1 := bd j hjn
      have b2 := bd i (by omega)
      have hj2 : nsJ f (f i) j = if f j < f i then nsJ f (f i) (j - 1) else j := by
        rw [show j = (j - 1) + 1 by omega]
        rfl
      refine ⟨fun z => ?_, fun z => ?_⟩
      · refine fin j (by omega) hjn ?_
        rw [← hjj, hj2, if_neg (fun y => absurd ((nI_leI (by omega) (by omega)).mp z) (by omega))]
      · have hlt : f j < f i := by
          rcases Nat.lt_or_ge (f j) (f i) with y | y
          · exact y
          · exact absurd (nI_le y (by omega)) z
        rw [hj2, if_pos hlt] at hjj
        have e := ih (j - 1) (by omega) (by omega) hjj
        have e9 : nI (j - 1) = nI j + -1 := by
          rw [show j = (j - 1) + 1 by omega, ← nI_1, Int32.add_assoc, show (1 + -1 : Int32) = 0 from rfl, Int32.add_zero, show j - 1 + 1 - 1 = j - 1 by omega]
        rw [e9] at e
        ((iterate 2 refine hP _ ?_); try dsimp only)
        exact e
  -- the first loop
  have key1 : ∀ i, i ≤ n - 2 → nsI f i = nsI f (n - 2) → P (cd_X0_goesToNextRow.drop 10, [some (.ref 43), some (.int (nI n)), some (.int (nI (n - 1))), some (.int (nI i)), none, none, none], [], (am_sh, v, w), 0, 0) := by
    have stop : ∀ i, i ≤ n - 2 → nsI f (n - 2) = some i → P (cd_X0_goesToNextRow.drop 25, [some (.ref 43), some (.int (nI n)), some (.int (nI (n - 1))), some (.int (nI i)), none, none, none], [], (am_sh, v, w), 0, 0) := by
      intro i hi hni
      ((repeat' first | refine hP _ ?_ | fail); try dsimp only)
      refine ⟨fun _ => ?_, fun z => absurd (nI_pos' (by omega)) z⟩
      ((iterate 2 refine hP _ ?_); try dsimp only)
      exact key2 i hi hni (n - 2 - i) (n - 1) (by omega) (by omega) rfl
    intro i
    induction i with
    | zero =>
      intro hi hni
      ((repeat' first | refine hP _ ?_ | fail); try dsimp only)
      refine ⟨fun z => absurd z (by decide), fun _ => ?_⟩
      ((repeat' first | refine hP _ ?_ | fail); try dsimp only)
      refine ⟨am_vin rfl, ?_⟩
      ((repeat' first | refine hP _ ?_ | fail); try dsimp only)
      refine ⟨am_vin rfl, ?_⟩
      ((repeat' first | refine hP _ ?_ | fail); try dsimp only)
      rw [show (nI 0).toNatClampNeg = 0 from rfl, show (nI 0 + 1 : Int32).toNatClampNeg = 1 from rfl, rd 0 (by omega), rd 1 (by omega)]
      have b1 := bd 0 (by omega)
      have b2 := bd 1 (by omega)
      refine ⟨fun z => ?_, fun z => ?_⟩
      · refine stop 0 hi ?_
        rw [← hni]
        unfold nsI
        rw [if_neg (fun y => absurd ((nI_leI (by omega) (by omega)).mp z) (by omega))]
      · have hnone : nsI f (n - 2) = none := by
          rw [← hni]
          unfold nsI
          rw [if_pos (by
            rcases Nat.lt_or_ge (f 1) (f 0) with y | y
            · exact y
            · exact absurd (nI_le y (by omega)) z)]
        ((repeat' first | refine hP _ ?_ | fail); try dsimp only)
        refine ⟨fun _ => ?_, fun z => absurd (by decide) z⟩
        ((repeat' first | refine hP _ ?_ | fail); try dsimp only)
        refine ⟨fun z => absurd z (by decide), fun _ => ?_⟩
        ((repeat' first | refine hP _ ?_ | fail); try dsimp only)
        exact ⟨Or.inl rfl, h0 (by unfold nsN; rw [hnone])⟩
    | succ i ih =>
      intro hi hni
      ((repeat' first | refine hP _ ?_ | fail); try dsimp only)
      refine ⟨fun z => absurd z (Int32.not_lt.mpr (nI_pos' (by omega))), fun _ => ?_⟩
      ((repeat' first | refine hP _ ?_ | fail); try dsimp only)
      refine ⟨vp_in_nI (by omega) (by omega), ?_⟩
      ((repeat' first | refine hP _ ?_ | fail); try dsimp only)
      rw [nI_1]
      refine ⟨vp_in_nI (by omega) (by omega), ?_⟩
      ((repeat' first | refine hP _ ?_ | fail); try dsimp only)
      rw [nI_clamp (by omega), nI_clamp (by omega), rd (i + 1) (by omega), rd (i + 1 + 1) (by omega)]
      have b1 := bd (i + 1) (by omega)
      have b2 : f (i + 2) ≤ 5 := bd (i + 2) (by omega)
      rw [show i + 1 + 1 = i + 2 from rfl]
      refine ⟨fun z => ?_, fun z => ?_⟩
      · refine stop (i + 1) hi ?_
        rw [← hni]
        unfold nsI
        rw [if_neg (fun y => absurd ((nI_leI (by omega) (by omega)).mp z) (by omega))]
      · have hlt : f (i + 2) < f (i + 1) := by
          rcases Nat.lt_or_ge (f (i + 2)) (f (i + 1)) with y | y
          · exact y
          · exact absurd (nI_le y (by omega)) z
        unfold nsI at hni
        rw [if_pos hlt] at hni
        have e := ih (by omega) (hni.trans (by cases n - 2 <;> rfl))
        have e9 : nI (i + 1) + -1 = nI i := by
          rw [← nI_1, Int32.add_assoc, show (1 + -1 : Int32) = 0 from rfl, Int32.add_zero]
        rw [← e9] at e
        ((iterate 2 refine hP _ ?_); try dsimp only)
        exact e
  have e := key1 (n - 2) (Nat.le_refl _) rfl
  ((iterate 10 refine hP _ ?_); try dsimp only)
  rw [show (if (6 : Int32) < nI n then (6 : Int32) else nI n) = nI n from (f_mnN (x := n) (y := 6) (by omega) (by omega)).trans (by rw [Nat.min_eq_left hn.2]), show nI n - 1 = nI (n - 1) from pk_sub (b := 1) (by omega), show nI (n - 1) - 1 = nI (n - 2) from (pk_sub (a := n - 1) (b := 1) (by omega)).trans (by rw [show n - 1 - 1 = n - 2 by omega])]
  exact e
set_option maxRecDepth 100000 in
set_option maxHeartbeats 4000000 in
theorem m_nextR {n : Nat} {f : Nat → Nat} (hn : 2 ≤ n ∧ n ≤ 6) (hs : seR v 102 n f) (h0 : nsN n f = none → Q (some (.int 0)) (am_sh, v, w)) (h1 : ∀ (g : Nat → Nat) (v' : am_V), nsN n f = some g → seR v' 102 n g → (∀ k, k ≠ 102 → v' k = v k) → Q (some (.int 1)) (am_sh, v', w)) : am_run K I am_m (d + 2) 223 [.ref 62, .int (nI n)] (am_sh, v, w) 0 0 Q := by
  refine en_X12_nextSeats rfl ?_
  intro P hP
  have rd : ∀ i, i < n → v 102 i = nI (f i) := fun i hi => (hs i hi).1
  have bd : ∀ i, i < n → f i ≤ 5 := fun i hi => (hs i hi).2
  have key3 : ∀ (q a b : Nat) (g : Nat → Nat) (u : am_V) (x3 x4 : Int32), a ≤ n → b < n → b < a + q → seR u 102 n g → (∀ k, k ≠ 102 → u k = v k) → nsN n f = some (nsR q g a b) → P (cd_X12_nextSeats.drop 56, [some (.ref 62), some (.int (nI n)), some (.int x3), some (.int x4), some (.int (nI a)), some (.int (nI b))], [], (am_sh, u, w), 0, 0) := by
    intro q
    induction q with
    | zero =>
      intro a b g u x3 x4 ha hb hq hg hfr hnn
      ((repeat' first | refine hP _ ?_ | fail); try dsimp only)
      refine ⟨fun _ => ?_, fun z => absurd (nI_le (show b ≤ a by omega) (by omega)) z⟩
      ((repeat' first | refine hP _ ?_ | fail); try dsimp only)
      exact ⟨Or.inr rfl, h1 _ u hnn hg hfr⟩
    | succ q ih =>
      intro a b g u x3 x4 ha hb hq hg hfr hnn
      unfold nsR at hnn
      ((repeat' first | refine hP _ ?_ | fail); try dsimp only)
      refine ⟨fun z => ?_, fun z => ?_⟩
      · have : ¬ a < b := by
          have := (nI_leI (by omega) (by omega)).mp z
          omega
        rw [if_neg this] at hnn
        ((repeat' first | refine hP _ ?_ | fail); try dsimp only)
        exact ⟨Or.inr rfl, h1 _ u hnn hg hfr⟩
      · have hab : a < b := by
          rcases Nat.lt_or_ge a b with y | y
          · exact y
          · exact absurd (nI_le y (by omega)) z
        rw [if_pos hab] at hnn
        ((repeat' first | refine hP _ ?_ | fail); try dsimp only)
        refine m_swapR hn.2 (by omega) hb ?_
        have e := ih (a + 1) (b - 1) _ _ x3 x4 (by omega) (by omega) (by omega) (seR_swp hg (show a < n by omega) hb) (fun k hk => by rw [am_up_ne _ _ _ hk, am_up_ne _ _ _ hk]; exact hfr k hk) hnn
        have e9 : nI (b - 1) = nI b + -1 := by
          rw [show b = (b - 1) + 1 by omega, ← nI_1, Int32.add_assoc, show (1 + -1 : Int32) = 0 from rfl, Int32.add_zero, show b - 1 + 1 - 1 = b - 1 by omega]
        rw [← nI_1, e9] at e
        ((iterate 3 refine hP _ ?_); try dsimp only)
        exact e
  have key2 : ∀ (i : Nat), i ≤ n - 2 → nsI f (n - 2) = some i → ∀ (k j : Nat), j = i + 1 + k → j < n → nsJ f (f i) j = nsJ f (f i) (n - 1) → P (cd_X12_nextSeats.drop 30, [some (.ref 62), some (.int (nI n)), some (.int (nI i)), some (.int (nI j)), none, none], [], (am_sh, v, w), 0, 0) := by
    intro i hi hni k
    have hif := nsI_le hni
    have fin : ∀ j, i + 1 ≤ j → j < n → nsJ f (f i) (n - 1) = j → P (cd_X12_nextSeats.drop 44, [some (.ref 62), some (.int (nI n)), some (.int (nI i)), some (.int (nI j)), none, none], [], (am_sh, v, w), 0, 0) := by
      intro j hj1 hj2 hj3
      ((repeat' first | refine hP _ ?_ | fail); try dsimp only)
      refine m_swapR hn.2 (show i < n by omega) hj2 ?_
      have e := key3 n (i + 1) (n - 1) _ _ (nI i) (nI j) (by omega) (by omega) (by omega) (seR_swp hs (show i < n by omega) hj2) (fun k hk => by rw [am_up_ne _ _ _ hk, am_up_ne _ _ _ hk]) (by unfold nsN; rw [hni]; dsimp only; rw [hj3])
      rw [← nI_1] at e
      ((iterate 8 refine hP _ ?_); try dsimp only)
      rw [show nI n - 1 = nI (n - 1) from pk_sub (b := 1) (by omega)]
      exact e
    have main : ∀ j, i + 1 ≤ j → j < n → nsJ f (f i) j = nsJ f (f i) (n - 1) → (f j < f i → i + 1 ≤ j - 1 → P (cd_X12_nextSeats.drop 30, [some (.ref 62), some (.int (nI n)), some (.int (nI i)), some (.int (nI (j - 1))), none, none], [], (am_sh, v, w), 0, 0)) → P (cd_X12_nextSeats.drop 30, [some (.ref 62), some (.int (nI n)), some (.int (nI i)), some (.int (nI j)), none, none], [], (am_sh, v, w), 0, 0) := by
      intro j hj hjn hjj kk
      ((repeat' first | refine hP _ ?_ | fail); try dsimp only)
      refine ⟨vp_in_nI (by omega) (by omega), ?_⟩
      ((repeat' first | refine hP _ ?_ | fail); try dsimp only)
      refine ⟨vp_in_nI (by omega) (by omega), ?_⟩
      ((repeat' first | refine hP _ ?_ | fail); try dsimp only)
      rw [nI_clamp (by omega), nI_clamp (by omega), rd j hjn, rd i (by omega)]
      have b1 := bd j hjn
      have b2 := bd i (by omega)
      have hj2 : nsJ f (f i) j = if f j < f i then nsJ f (f i) (j - 1) else j := by
        rw [show j = (j - 1) + 1 by omega]
        rfl
      refine ⟨fun z => ?_, fun z => ?_⟩
      · refine fin j (by omega) hjn ?_
        rw [← hjj, hj2, if_neg (fun y => absurd ((nI_leI (by omega) (by omega)).mp z) (by omega))]
      · have hlt : f j < f i := by
          rcases Nat.lt_or_ge (f j) (f i) with y | y
          · exact y
          · exact absurd (nI_le y (by omega)) z
        have hne : j ≠ i + 1 := by
          intro y
          rw [y] at hlt
          omega
        have e := kk hlt (by omega)
        rw [show nI (j - 1) = nI j - 1 from (pk_sub (a := j) (b := 1) (by omega)).symm] at e
        ((iterate 5 refine hP _ ?_); try dsimp only)
        exact e
    induction k with
    | zero =>
      intro j hj hjn hjj
      exact main j (by omega) hjn hjj (fun _ y => absurd y (by omega))
    | succ k ih =>
      intro j hj hjn hjj
      refine main j (by omega) hjn hjj (fun hlt _ => ?_)
      have hj2 : nsJ f (f i) j = if f j < f i then nsJ f (f i) (j - 1) else j := by
        rw [show j = (j - 1) + 1 by omega]
        rfl
      rw [hj2, if_pos hlt] at hjj
      exact ih (j - 1) (by omega) (by omega) hjj
  have key1 : ∀ i, i ≤ n - 2 → nsI f i = nsI f (n - 2) → P (cd_X12_nextSeats.drop 4, [some (.ref 62), some (.int (nI n)), some (.int (nI i)), none, none, none], [], (am_sh, v, w), 0, 0) := by
    have stop : ∀ i, i ≤ n - 2 → nsI f (n - 2) = some i → P (cd_X12_nextSeats.drop 22, [some (.ref 62), some (.int (nI n)), some (.int (nI i)), none, none, none], [], (am_sh, v, w), 0, 0) := by
      intro i hi hni
      ((repeat' first | refine hP _ ?_ | fail); try dsimp only)
      refine ⟨fun _ => ?_, fun z => absurd (nI_pos' (by omega)) z⟩
      have e := key2 i hi hni (n - 2 - i) (n - 1) (by omega) (by omega) rfl
      ((iterate 4 refine hP _ ?_); try dsimp only)
      rw [show nI n - 1 = nI (n - 1) from pk_sub (b := 1) (by omega)]
      exact e
    intro i
    induction i with
    | zero =>
      intro hi hni
      ((repeat' first | refine hP _ ?_ | fail); try dsimp only)
      refine ⟨fun z => absurd z (by decide), fun _ => ?_⟩
      ((repeat' first | refine hP _ ?_ | fail); try dsimp only)
      refine ⟨am_vin rfl, ?_⟩
      ((repeat' first | refine hP _ ?_ | fail); try dsimp only)
      refine ⟨am_vin rfl, ?_⟩
      ((repeat' first | refine hP _ ?_ | fail); try dsimp only)
      rw [show (nI 0).toNatClampNeg = 0 from rfl, show (nI 0 + 1 : Int32).toNatClampNeg = 1 from rfl, rd 0 (by omega), rd 1 (by omega)]
      have b1 := bd 0 (by omega)
      have b2 := bd 1 (by omega)
      refine ⟨fun z => ?_, fun z => ?_⟩
      · refine stop 0 hi ?_
        rw [← hni]
        unfold nsI
        rw [if_neg (fun y => absurd ((nI_leI (by omega) (by omega)).mp z) (by omega))]
      · have hnone : nsI f (n - 2) = none := by
          rw [← hni]
          unfold nsI
          rw [if_pos (by
            rcases Nat.lt_or_ge (f 1) (f 0) with y | y
            · exact y
            · exact absurd (nI_le y (by omega)) z)]
        ((repeat' first | refine hP _ ?_ | fail); try dsimp only)
        refine ⟨fun _ => ?_, fun z => absurd (by decide) z⟩
        ((repeat' first | refine hP _ ?_ | fail); try dsimp only)
        refine ⟨fun z => absurd z (by decide), fun _ => ?_⟩
        ((repeat' first | refine hP _ ?_ | fail); try dsimp only)
        exact ⟨Or.inl rfl, h0 (by unfold nsN; rw [hnone])⟩
    | succ i ih =>
      intro hi hni
      ((repeat' first | refine hP _ ?_ | fail); try dsimp only)
      refine ⟨fun z => absurd z (Int32.not_lt.mpr (nI_pos' (by omega))), fun _ => ?_⟩
      ((repeat' first | refine hP _ ?_ | fail); try dsimp only)
      refine ⟨vp_in_nI (by omega) (by omega), ?_⟩
      ((repeat' first | refine hP _ ?_ | fail); try dsimp only)
      rw [nI_1]
      refine ⟨vp_in_nI (by omega) (by omega), ?_⟩
      ((repeat' first | refine hP _ ?_ | fail); try dsimp only)
      rw [nI_clamp (by omega), nI_clamp (by omega), rd (i + 1) (by omega), rd (i + 1 + 1) (by omega)]
      have b1 := bd (i + 1) (by omega)
      have b2 : f (i + 2) ≤ 5 := bd (i + 2) (by omega)
      rw [show i + 1 + 1 = i + 2 from rfl]
      refine ⟨fun z => ?_, fun z => ?_⟩
      · refine stop (i + 1) hi ?_
        rw [← hni]
        unfold nsI
        rw [if_neg (fun y => absurd ((nI_leI (by omega) (by omega)).mp z) (by omega))]
      · have hlt : f (i + 2) < f (i + 1) := by
          rcases Nat.lt_or_ge (f (i + 2)) (f (i + 1)) with y | y
          · exact y
          · exact absurd (nI_le y (by omega)) z
        unfold nsI at hni
        rw [if_pos hlt] at hni
        have e := ih (by omega) (hni.trans (by cases n - 2 <;> rfl))
        rw [show nI i = nI (i + 1) - 1 from (pk_sub (a := i + 1) (b := 1) (by omega)).symm] at e
        ((iterate 5 refine hP _ ?_); try dsimp only)
        exact e
  have e := key1 (n - 2) (Nat.le_refl _) rfl
  ((iterate 4 refine hP _ ?_); try dsimp only)
  rw [show nI n - 2 = nI (n - 2) from pk_sub (b := 2) (by omega)]
  exact e
end M40
