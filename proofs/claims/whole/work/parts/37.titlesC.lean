/-! ===== titles: readTitles ===== -/
theorem am_up_up (v : am_V) (k j : Nat) (x y : Int32) : am_up (am_up v k j x) k j y = am_up v k j y := by
  funext a b
  simp only [am_up_eq]
  by_cases h : a = k ∧ b = j
  · simp [h]
  · simp [h]
section M37
variable {K : am_K} {I : am_I} {d : Nat} {v : am_V} {w : am_X} {Q : Option Value → am_H → Prop}
set_option maxRecDepth 100000 in
set_option maxHeartbeats 4000000 in
theorem m_readTitles {n m tn : Nat} {t : Nat → Nat} (hn : 1 ≤ n ∧ n ≤ 10) (hm : 1 ≤ m ∧ m ≤ 10) (htn : v 1 1 = nI tn) (htn2 : tn ≤ 260) (hnm : n + m ≤ tn) (ht : ∀ j, 1 ≤ t j ∧ t j ≤ 255) (hv : ∀ j, j < n + m → v 2 j = nI (t j)) {B c : Nat} (hB : dpT 16 t (fun j => t (n + j)) n m + c = 16 * B) (hc : c ≤ 10) (hcB : c ≤ B) (h : ∀ v' : am_V, (∀ k, (k < 48 ∨ 58 < k) → v' k = v k) → Q none (am_sh, am_up (am_up v' 43 8 (nI B)) 43 9 (nI c), w)) : am_run K I am_m (d + 2) 3 [.ref 43, .int (nI n), .int (nI m)] (am_sh, v, w) 0 0 Q := by
  have bd : ∀ i j, i ≤ 10 → j ≤ 10 → dpT 16 t (fun j => t (n + j)) i j ≤ 255 * 16 * 20 := fun i j hi hj => Nat.le_trans (dpT_bd (fun j => (ht j).2) (fun j => (ht (n + j)).2) (i + j) i j rfl) (Nat.mul_le_mul_left _ (by omega))
  generalize hD : dpT 16 t (fun j => t (n + j)) = D at bd hB
  have D00 : D 0 0 = 0 := by rw [← hD, dpT]
  have D0 : ∀ j, D 0 (j + 1) = D 0 j + 16 * t (n + j) := fun j => by rw [← hD, dpT]
  have Dj : ∀ i, D (i + 1) 0 = D i 0 + 16 * t i := fun i => by rw [← hD, dpT]
  have Dij : ∀ i j, D (i + 1) (j + 1) = min (min (D i (j + 1) + 16 * t i) (D (i + 1) j + 16 * t (n + j))) (D i j + 16 * max (t i) (t (n + j)) - 1) := fun i j => by rw [← hD, dpT]
  have e16 : ∀ x a : Nat, nI x + nI a * 16 = nI (x + 16 * a) := fun x a => by
    rw [show nI a * 16 = nI (a * 16) from pk_mul a 16, nI_add, Nat.mul_comm]
  have s1 : ∀ i : Nat, nI (i + 1) - 1 = nI i := fun i => pk_sub (a := i + 1) (b := 1) (by omega)
  have s2 : ∀ j : Nat, nI n + nI (j + 1) - 1 = nI (n + j) := fun j => by
    rw [nI_add]
    exact pk_sub (a := n + (j + 1)) (b := 1) (by omega)
  refine en_X0_readTitles rfl ?_
  intro P hP
  -- a place
  have one : ∀ (i j : Nat) (u : am_V) (l6 l7 l8 : Option Value), i ≤ n → j ≤ m → (∀ k, (k < 48 ∨ 58 < k) → u k = v k) → (∀ i' j', i' ≤ 10 → j' ≤ 10 → ((i' < i ∧ j' ≤ m) ∨ (i' = i ∧ j' < j)) → u (48 + i') j' = nI (D i' j')) → (i = 0 → j = 0 → u 48 0 = 0) → (∀ (u' : am_V) (l6 l7 l8 : Option Value), (∀ k, (k < 48 ∨ 58 < k) → u' k = v k) → (∀ i' j', i' ≤ 10 → j' ≤ 10 → ((i' < i ∧ j' ≤ m) ∨ (i' = i ∧ j' < j + 1)) → u' (48 + i') j' = nI (D i' j')) → P (cd_X0_readTitles.drop 131, [some (.ref 43), some (.int (nI n)), some (.int (nI m)), some (.ref 47), some (.int (nI i)), some (.int (nI j)), l6, l7, l8], [], (am_sh, u', w), 0, 0)) → P (cd_X0_readTitles.drop 25, [some (.ref 43), some (.int (nI n)), some (.int (nI m)), some (.ref 47), some (.int (nI i)), some (.int (nI j)), l6, l7, l8], [], (am_sh, u, w), 0, 0) := by
    intro i j u l6 l7 l8 hi hj hfr hu h00 kk
    have r1 : u 1 1 = nI tn := by rw [hfr 1 (by omega)]; exact htn
    have r2 : ∀ q, q < n + m → u 2 q = nI (t q) := fun q hq => by rw [hfr 2 (by omega)]; exact hv q hq
    have fr2 : ∀ (x : Int32) (i' j' : Nat), i' ≤ 10 → ∀ k, (k < 48 ∨ 58 < k) → am_up u (48 + i') j' x k = v k := fun x i' j' hi' k hk => by
      rw [am_up_ne _ _ _ (by omega)]
      exact hfr k hk
    have new : ∀ x : Int32, x = nI (D i j) → ∀ i' j', i' ≤ 10 → j' ≤ 10 → ((i' < i ∧ j' ≤ m) ∨ (i' = i ∧ j' < j + 1)) → am_up u (48 + i) j x (48 + i') j' = nI (D i' j') := by
      intro x hx i' j' z1 z2 z3
      rw [am_up_eq]
      by_cases y : 48 + i' = 48 + i ∧ j' = j
      · rw [if_pos y, hx, show i' = i by omega, y.2]
      · rw [if_neg y]
        exact hu i' j' z1 z2 (by omega)
    cases i with
    | zero =>
      cases j with
      | zero =>
        ((repeat' first | refine hP _ ?_ | fail); try dsimp only)
        refine ⟨fun _ => ?_, fun z => absurd (by decide) z⟩
        ((repeat' first | refine hP _ ?_ | fail); try dsimp only)
        refine ⟨fun _ => ?_, fun z => absurd (by decide) z⟩
        ((repeat' first | refine hP _ ?_ | fail); try dsimp only)
        refine ⟨fun _ => ?_, fun z => absurd (by decide) z⟩
        ((repeat' first | refine hP _ ?_ | fail); try dsimp only)
        refine ⟨fun _ => ?_, fun z => absurd (by decide) z⟩
        ((repeat' first | refine hP _ ?_ | fail); try dsimp only)
        refine ⟨fun _ => ?_, fun z => absurd (by decide) z⟩
        refine kk u _ _ _ hfr (fun i' j' z1 z2 z3 => ?_)
        rw [show i' = 0 by omega, show j' = 0 by omega, D00]
        exact h00 rfl rfl
      | succ j =>
        have pj : ¬ nI (j + 1) ≤ 0 := nI_nle (by omega) (by omega)
        ((repeat' first | refine hP _ ?_ | fail); try dsimp only)
        refine ⟨fun _ => ?_, fun z => absurd (by decide) z⟩
        ((repeat' first | refine hP _ ?_ | fail); try dsimp only)
        refine ⟨fun z => absurd z pj, fun _ => ?_⟩
        ((repeat' first | refine hP _ ?_ | fail); try dsimp only)
        rw [s2]
        refine m_byteAt (by omega) r1 htn2 ?_
        rw [r2 _ (by omega)]
        ((repeat' first | refine hP _ ?_ | fail); try dsimp only)
        refine ⟨fun _ => ?_, fun z => absurd (by decide) z⟩
        ((repeat' first | refine hP _ ?_ | fail); try dsimp only)
        refine ⟨fun z => absurd z pj, fun _ => ?_⟩
        ((repeat' first | refine hP _ ?_ | fail); try dsimp only)
        refine s_aald (i := 0) (by omega) ?_
        ((repeat' first | refine hP _ ?_ | fail); try dsimp only)
        rw [s1]
        refine s_iald (by omega) (by omega) ?_
        rw [hu 0 j (by omega) (by omega) (by omega)]
        ((repeat' first | refine hP _ ?_ | fail); try dsimp only)
        rw [e16, ← D0]
        refine s_aald (i := 0) (by omega) ?_
        ((repeat' first | refine hP _ ?_ | fail); try dsimp only)
        refine ⟨fun _ => ?_, fun z => absurd (by decide) z⟩
        ((repeat' first | refine hP _ ?_ | fail); try dsimp only)
        refine s_iast (by omega) (by omega) ?_
        ((repeat' first | refine hP _ ?_ | fail); try dsimp only)
        refine ⟨fun _ => ?_, fun z => absurd (by decide) z⟩
        exact kk _ _ _ _ (fr2 _ _ _ (by omega)) (new _ rfl)
    | succ i =>
      have pi : ¬ nI (i + 1) ≤ 0 := nI_nle (by omega) (by omega)
      cases j with
      | zero =>
        ((repeat' first | refine hP _ ?_ | fail); try dsimp only)
        refine ⟨fun z => absurd z pi, fun _ => ?_⟩
        ((repeat' first | refine hP _ ?_ | fail); try dsimp only)
        rw [s1]
        refine m_byteAt (by omega) r1 htn2 ?_
        rw [r2 _ (by omega)]
        ((repeat' first | refine hP _ ?_ | fail); try dsimp only)
        refine ⟨fun _ => ?_, fun z => absurd (by decide) z⟩
        ((repeat' first | refine hP _ ?_ | fail); try dsimp only)
        refine ⟨fun z => absurd z pi, fun _ => ?_⟩
        ((repeat' first | refine hP _ ?_ | fail); try dsimp only)
        refine s_aald (by omega) ?_
        ((repeat' first | refine hP _ ?_ | fail); try dsimp only)
        rw [s1]
        refine s_aald (by omega) ?_
        ((repeat' first | refine hP _ ?_ | fail); try dsimp only)
        refine s_iald (by omega) (j := 0) (by omega) ?_
        rw [hu i 0 (by omega) (by omega) (by omega)]
        ((repeat' first | refine hP _ ?_ | fail); try dsimp only)
        rw [e16, ← Dj]
        refine s_iast (by omega) (j := 0) (by omega) ?_
        ((repeat' first | refine hP _ ?_ | fail); try dsimp only)
        refine ⟨fun _ => ?_, fun z => absurd (by decide) z⟩
        ((repeat' first | refine hP _ ?_ | fail); try dsimp only)
        refine ⟨fun z => absurd z pi, fun _ => ?_⟩
        ((repeat' first | refine hP _ ?_ | fail); try dsimp only)
        refine ⟨fun _ => ?_, fun z => absurd (by decide) z⟩
        exact kk _ _ _ _ (fr2 _ _ _ (by omega)) (new _ rfl)
      | succ j =>
        have pj : ¬ nI (j + 1) ≤ 0 := nI_nle (by omega) (by omega)
        have b1 := bd i (j + 1) (by omega) (by omega)
        have b2 := bd (i + 1) j (by omega) (by omega)
        have b3 := bd i j (by omega) (by omega)
        have b4 := ht i
        have b5 := ht (n + j)
        ((repeat' first | refine hP _ ?_ | fail); try dsimp only)
        refine ⟨fun z => absurd z pi, fun _ => ?_⟩
        ((repeat' first | refine hP _ ?_ | fail); try dsimp only)
        rw [s1]
        refine m_byteAt (by omega) r1 htn2 ?_
        rw [r2 _ (by omega)]
        ((repeat' first | refine hP _ ?_ | fail); try dsimp only)
        refine ⟨fun z => absurd z pj, fun _ => ?_⟩
        ((repeat' first | refine hP _ ?_ | fail); try dsimp only)
        rw [s2]
        refine m_byteAt (by omega) r1 htn2 ?_
        rw [r2 _ (by omega)]
        ((repeat' first | refine hP _ ?_ | fail); try dsimp only)
        refine ⟨fun z => absurd z pi, fun _ => ?_⟩
        ((repeat' first | refine hP _ ?_ | fail); try dsimp only)
        refine s_aald (by omega) ?_
        ((repeat' first | refine hP _ ?_ | fail); try dsimp only)
        rw [s1]
        refine s_aald (by omega) ?_
        ((repeat' first | refine hP _ ?_ | fail); try dsimp only)
        refine s_iald (by omega) (by omega) ?_
        rw [hu i (j + 1) (by omega) (by omega) (by omega)]
        ((repeat' first | refine hP _ ?_ | fail); try dsimp only)
        rw [e16]
        refine s_iast (by omega) (by omega) ?_
        ((repeat' first | refine hP _ ?_ | fail); try dsimp only)
        refine ⟨fun z => absurd z pj, fun _ => ?_⟩
        ((repeat' first | refine hP _ ?_ | fail); try dsimp only)
        refine s_aald (by omega) ?_
        ((repeat' first | refine hP _ ?_ | fail); try dsimp only)
        rw [s1]
        refine s_iald (by omega) (by omega) ?_
        rw [show am_up u (48 + (i + 1)) (j + 1) (nI (D i (j + 1) + 16 * t i)) (48 + (i + 1)) j = nI (D (i + 1) j) by
          rw [am_up_eq, if_neg (by omega)]
          exact hu (i + 1) j (by omega) (by omega) (by omega)]
        ((repeat' first | refine hP _ ?_ | fail); try dsimp only)
        rw [e16]
        refine s_aald (by omega) ?_
        ((repeat' first | refine hP _ ?_ | fail); try dsimp only)
        refine ⟨fun z => absurd z pi, fun _ => ?_⟩
        ((repeat' first | refine hP _ ?_ | fail); try dsimp only)
        refine s_aald (by omega) ?_
        ((repeat' first | refine hP _ ?_ | fail); try dsimp only)
        refine s_iald (by omega) (by omega) ?_
        rw [show am_up u (48 + (i + 1)) (j + 1) (nI (D i (j + 1) + 16 * t i)) (48 + (i + 1)) (j + 1) = nI (D i (j + 1) + 16 * t i) by
          rw [am_up_eq, if_pos ⟨rfl, rfl⟩]]
        ((repeat' first | refine hP _ ?_ | fail); try dsimp only)
        rw [f_mnN (by omega) (by omega)]
        refine s_iast (by omega) (by omega) ?_
        rw [am_up_up]
        ((repeat' first | refine hP _ ?_ | fail); try dsimp only)
        refine ⟨fun z => absurd z pi, fun _ => ?_⟩
        ((repeat' first | refine hP _ ?_ | fail); try dsimp only)
        refine ⟨fun z => absurd z pj, fun _ => ?_⟩
        ((repeat' first | refine hP _ ?_ | fail); try dsimp only)
        rw [s1]
        refine s_aald (by omega) ?_
        ((repeat' first | refine hP _ ?_ | fail); try dsimp only)
        rw [s1]
        refine s_iald (by omega) (by omega) ?_
        rw [show am_up u (48 + (i + 1)) (j + 1) (nI (min (D i (j + 1) + 16 * t i) (D (i + 1) j + 16 * t (n + j)))) (48 + i) j = nI (D i j) by
          rw [am_up_eq, if_neg (by omega)]
          exact hu i j (by omega) (by omega) (by omega)]
        ((repeat' first | refine hP _ ?_ | fail); try dsimp only)
        have hmx : 1 ≤ max (t i) (t (n + j)) := Nat.le_trans b4.1 (Nat.le_max_left _ _)
        have hmx2 : max (t i) (t (n + j)) ≤ 255 := Nat.max_le.mpr ⟨b4.2, b5.2⟩
        rw [f_mxN (by omega) (by omega), e16, show nI (D i j + 16 * max (t i) (t (n + j))) - 1 = nI (D i j + 16 * max (t i) (t (n + j)) - 1) from pk_sub (b := 1) (by omega)]
        refine s_aald (by omega) ?_
        ((repeat' first | refine hP _ ?_ | fail); try dsimp only)
        refine s_aald (by omega) ?_
        ((repeat' first | refine hP _ ?_ | fail); try dsimp only)
        refine s_iald (by omega) (by omega) ?_
        rw [show am_up u (48 + (i + 1)) (j + 1) (nI (min (D i (j + 1) + 16 * t i) (D (i + 1) j + 16 * t (n + j)))) (48 + (i + 1)) (j + 1) = nI (min (D i (j + 1) + 16 * t i) (D (i + 1) j + 16 * t (n + j))) by
          rw [am_up_eq, if_pos ⟨rfl, rfl⟩]]
        ((repeat' first | refine hP _ ?_ | fail); try dsimp only)
        rw [f_mnN (Nat.lt_of_le_of_lt (Nat.min_le_left _ _) (by omega)) (by omega), ← Dij]
        refine s_iast (by omega) (by omega) ?_
        rw [am_up_up]
        exact kk _ _ _ _ (fr2 _ _ _ (by omega)) (new _ rfl)
  -- a row
  have row : ∀ (q i j : Nat) (u : am_V) (l6 l7 l8 : Option Value), i ≤ n → j + q = m + 1 → (∀ k, (k < 48 ∨ 58 < k) → u k = v k) → (∀ i' j', i' ≤ 10 → j' ≤ 10 → ((i' < i ∧ j' ≤ m) ∨ (i' = i ∧ j' < j)) → u (48 + i') j' = nI (D i' j')) → (i = 0 → j = 0 → u 48 0 = 0) → (∀ (u' : am_V) (l5 l6 l7 l8 : Option Value), (∀ k, (k < 48 ∨ 58 < k) → u' k = v k) → (∀ i' j', i' ≤ 10 → j' ≤ 10 → i' < i + 1 ∧ j' ≤ m → u' (48 + i') j' = nI (D i' j')) → P (cd_X0_readTitles.drop 133, [some (.ref 43), some (.int (nI n)), some (.int (nI m)), some (.ref 47), some (.int (nI i)), l5, l6, l7, l8], [], (am_sh, u', w), 0, 0)) → P (cd_X0_readTitles.drop 19, [some (.ref 43), some (.int (nI n)), some (.int (nI m)), some (.ref 47), some (.int (nI i)), some (.int (nI j)), l6, l7, l8], [], (am_sh, u, w), 0, 0) := by
    intro q
    induction q with
    | zero =>
      intro i j u l6 l7 l8 hi hj hfr hu h00 kk
      ((repeat' first | refine hP _ ?_ | fail); try dsimp only)
      refine ⟨fun _ => ?_, fun z => absurd (nI_lt (show m < j by omega) (by omega)) z⟩
      exact kk u _ _ _ _ hfr (fun i' j' z1 z2 z3 => hu i' j' z1 z2 (by omega))
    | succ q ih =>
      intro i j u l6 l7 l8 hi hj hfr hu h00 kk
      ((repeat' first | refine hP _ ?_ | fail); try dsimp only)
      refine ⟨fun z => absurd z (nI_nlt (by omega) (by omega)), fun _ => ?_⟩
      ((repeat' first | refine hP _ ?_ | fail); try dsimp only)
      refine ⟨fun z => absurd z (nI_nlt (a := 10) (by omega) (by omega)), fun _ => ?_⟩
      refine one i j u l6 l7 l8 hi (by omega) hfr hu h00 (fun u' l6 l7 l8 hfr' hu' => ?_)
      have e := ih i (j + 1) u' l6 l7 l8 hi (by omega) hfr' hu' (by omega) kk
      rw [← nI_1] at e
      ((iterate 2 refine hP _ ?_); try dsimp only)
      exact e
  have outer : ∀ (q i : Nat) (u : am_V) (l5 l6 l7 l8 : Option Value), i + q = n + 1 → (∀ k, (k < 48 ∨ 58 < k) → u k = v k) → (∀ i' j', i' ≤ 10 → j' ≤ 10 → i' < i ∧ j' ≤ m → u (48 + i') j' = nI (D i' j')) → (i = 0 → u 48 0 = 0) → P (cd_X0_readTitles.drop 11, [some (.ref 43), some (.int (nI n)), some (.int (nI m)), some (.ref 47), some (.int (nI i)), l5, l6, l7, l8], [], (am_sh, u, w), 0, 0) := by
    intro q
    induction q with
    | zero =>
      intro i u l5 l6 l7 l8 hi hfr hu h00
      ((repeat' first | refine hP _ ?_ | fail); try dsimp only)
      refine ⟨fun _ => ?_, fun z => absurd (nI_lt (show n < i by omega) (by omega)) z⟩
      ((repeat' first | refine hP _ ?_ | fail); try dsimp only)
      refine ⟨fun z => absurd z (nI_nlt (a := 10) (by omega) (by omega)), fun _ => ?_⟩
      ((repeat' first | refine hP _ ?_ | fail); try dsimp only)
      refine ⟨fun z => absurd z (nI_nlt (a := 10) (by omega) (by omega)), fun _ => ?_⟩
      ((repeat' first | refine hP _ ?_ | fail); try dsimp only)
      refine s_aald (by omega) ?_
      ((repeat' first | refine hP _ ?_ | fail); try dsimp only)
      refine s_iald (by omega) (by omega) ?_
      rw [hu n m (by omega) (by omega) ⟨by omega, by omega⟩]
      have b1 := bd n m (by omega) (by omega)
      ((repeat' first | refine hP _ ?_ | fail); try dsimp only)
      refine ⟨by decide, ?_⟩
      have g1 : (nI (D n m) + 16 - 1) / 16 = nI B := by
        rw [show nI (D n m) + 16 = nI (D n m + 16) from nI_add _ 16, show nI (D n m + 16) - 1 = nI (D n m + 16 - 1) from pk_sub (b := 1) (by omega), show (16 : Int32) = nI 16 from rfl, pk_div (by omega) (by omega) (by omega)]
        congr 1
        omega
      have g2 : nI B * 16 - nI (D n m) = nI c := by
        rw [show nI B * 16 = nI (B * 16) from pk_mul B 16, pk_sub (by omega)]
        congr 1
        omega
      ((repeat' first | refine hP _ ?_ | fail); try dsimp only)
      rw [g1, show am_up u 43 8 (nI B) 43 8 = nI B by rw [am_up_eq, if_pos ⟨rfl, rfl⟩], g2]
      exact h u hfr
    | succ q ih =>
      intro i u l5 l6 l7 l8 hi hfr hu h00
      ((repeat' first | refine hP _ ?_ | fail); try dsimp only)
      refine ⟨fun z => absurd z (nI_nlt (by omega) (by omega)), fun _ => ?_⟩
      ((repeat' first | refine hP _ ?_ | fail); try dsimp only)
      refine ⟨fun z => absurd z (nI_nlt (a := 10) (by omega) (by omega)), fun _ => ?_⟩
      ((iterate 2 refine hP _ ?_); try dsimp only)
      refine row (m + 1) i 0 u l6 l7 l8 (by omega) (by omega) hfr (fun i' j' z1 z2 z3 => hu i' j' z1 z2 (by omega)) (fun z _ => h00 z) (fun u' l5 l6 l7 l8 hfr' hu' => ?_)
      have e := ih (i + 1) u' l5 l6 l7 l8 (by omega) hfr' hu' (by omega)
      rw [← nI_1] at e
      ((iterate 2 refine hP _ ?_); try dsimp only)
      exact e
  ((repeat' first | refine hP _ ?_ | fail); try dsimp only)
  refine s_aald (i := 0) (by omega) ?_
  ((repeat' first | refine hP _ ?_ | fail); try dsimp only)
  refine s_iast (i := 0) (j := 0) (by omega) (by omega) ?_
  ((iterate 2 refine hP _ ?_); try dsimp only)
  refine outer (n + 1) 0 (am_up v (48 + 0) 0 0) none none none none (by omega) (fun k hk => am_up_ne _ _ _ (by omega)) (fun i' j' z1 z2 z3 => absurd z3.1 (by omega)) (fun _ => by rw [am_up_eq, if_pos ⟨rfl, rfl⟩])
end M37
