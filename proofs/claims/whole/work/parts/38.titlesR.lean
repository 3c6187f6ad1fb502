/-! ===== titles: the reference; all within bounds ===== -/
theorem f_mnN2 {x y : Nat} (hx : x < 2 ^ 31) (hy : y < 2 ^ 31) : (if nI x < nI y then nI x else nI y) = nI (min x y) := by
  by_cases h : x < y
  · rw [if_pos (nI_lt h hy), Nat.min_eq_left (by omega)]
  · rw [if_neg (fun q => h ((nI_ltI hx hy).mp q)), Nat.min_eq_right (by omega)]
theorem f_mxN2 {x y : Nat} (hx : x < 2 ^ 31) (hy : y < 2 ^ 31) : (if nI y < nI x then nI x else nI y) = nI (max x y) := by
  by_cases h : y < x
  · rw [if_pos (nI_lt h hx), Nat.max_eq_left (by omega)]
  · rw [if_neg (fun q => h ((nI_ltI hy hx).mp q)), Nat.max_eq_right (by omega)]
section M38
variable {K : am_K} {I : am_I} {d : Nat} {v : am_V} {w : am_X} {Q : Option Value → am_H → Prop}
set_option maxRecDepth 100000 in
set_option maxHeartbeats 4000000 in
theorem m_allWithin {N tn : Nat} {lo hi : Int32} (htn : v 1 1 = nI tn) (htn2 : tn ≤ 260) (hN : N ≤ tn) (h1 : (∀ j, j < N → lo ≤ v 2 j ∧ v 2 j ≤ hi) → Q (some (.int 1)) (am_sh, v, w)) (h0 : ∀ j, j < N → (v 2 j < lo ∨ hi < v 2 j) → Q (some (.int 0)) (am_sh, v, w)) : am_run K I am_m (d + 2) 1 [.ref 43, .int (nI N), .int lo, .int hi] (am_sh, v, w) 0 0 Q := by
  refine en_X0_allWithin rfl ?_
  intro P hP
  have key : ∀ (k i : Nat), i + k = N → (∀ j, j < i → lo ≤ v 2 j ∧ v 2 j ≤ hi) → P (cd_X0_allWithin.drop 2, [some (.ref 43), some (.int (nI N)), some (.int lo), some (.int hi), some (.int (nI i))], [], (am_sh, v, w), 0, 0) := by
    intro k
    induction k with
    | zero =>
      intro i hi' hh
      ((repeat' first | refine hP _ ?_ | fail); try dsimp only)
      refine ⟨fun _ => ?_, fun c => absurd (nI_le (show N ≤ i by omega) (by omega)) c⟩
      ((repeat' first | refine hP _ ?_ | fail); try dsimp only)
      exact ⟨Or.inr rfl, h1 (fun j hj => hh j (by omega))⟩
    | succ k ih =>
      intro i hi' hh
      ((repeat' first | refine hP _ ?_ | fail); try dsimp only)
      refine ⟨fun c => absurd c (nI_ge (by omega) (by omega)), fun _ => ?_⟩
      ((repeat' first | refine hP _ ?_ | fail); try dsimp only)
      refine m_byteAt (by omega) htn htn2 ?_
      ((repeat' first | refine hP _ ?_ | fail); try dsimp only)
      refine m_X11_outside (fun c => ?_) (fun c1 c2 => ?_)
      · ((repeat' first | refine hP _ ?_ | fail); try dsimp only)
        refine ⟨fun c => absurd c (by decide), fun _ => ?_⟩
        ((repeat' first | refine hP _ ?_ | fail); try dsimp only)
        exact ⟨Or.inl rfl, h0 i (by omega) c⟩
      · have e := ih (i + 1) (by omega) (fun j hj => by
          rcases Nat.lt_or_ge j i with z | z
          · exact hh j z
          · rw [show j = i by omega]
            exact ⟨c1, c2⟩)
        rw [← nI_1] at e
        ((repeat' first | refine hP _ ?_ | fail); try dsimp only)
        refine ⟨fun _ => ?_, fun c => absurd rfl c⟩
        ((iterate 2 refine hP _ ?_); try dsimp only)
        exact e
  ((iterate 2 refine hP _ ?_); try dsimp only)
  exact key N 0 (by omega) (fun j hj => absurd hj (by omega))
set_option maxRecDepth 100000 in
set_option maxHeartbeats 4000000 in
theorem lp_titles2 {P : am_C → Prop} {n m : Nat} {what : Int32} {t : Nat → Nat} (hn : 1 ≤ n ∧ n ≤ 10) (hm : 1 ≤ m ∧ m ≤ 10) (ht : ∀ j, 1 ≤ t j ∧ t j ≤ 255) (hv : ∀ j, j < n + m → v 66 j &&& 255 = nI (t j)) {B c : Nat} (hB : dpT 100 t (fun j => t (n + j)) n m + c = 100 * B) (hc : c ≤ 10) (hcB : c ≤ B) (hP : ∀ c, am_step K I (am_run K I am_m (d + 1)) cd_X12_titles 0 0 Q P c → P c) (h : ∀ v' : am_V, (∀ k, k ≠ 100 → v' k = v k) → Q (some (.int (if what = 0 then nI B else nI c))) (am_sh, v', w)) : P (cd_X12_titles.drop 46, [some (.ref 62), some (.int (nI n)), some (.int (nI m)), some (.int what), some (.int 0), none, none], [], (am_sh, v, w), 0, 0) := by
  have bd : ∀ i j, i ≤ 10 → j ≤ 10 → dpT 100 t (fun j => t (n + j)) i j ≤ 255 * 100 * 20 := fun i j hi hj => Nat.le_trans (dpT_bd (fun j => (ht j).2) (fun j => (ht (n + j)).2) (i + j) i j rfl) (Nat.mul_le_mul_left _ (by omega))
  generalize hD : dpT 100 t (fun j => t (n + j)) = D at bd hB
  have D00 : D 0 0 = 0 := by rw [← hD, dpT]
  have D0 : ∀ j, D 0 (j + 1) = D 0 j + 100 * t (n + j) := fun j => by rw [← hD, dpT]
  have Dj : ∀ i, D (i + 1) 0 = D i 0 + 100 * t i := fun i => by rw [← hD, dpT]
  have Dij : ∀ i j, D (i + 1) (j + 1) = min (min (D i (j + 1) + 100 * t i) (D (i + 1) j + 100 * t (n + j))) (D i j + 100 * max (t i) (t (n + j)) - 1) := fun i j => by rw [← hD, dpT]
  have e100 : ∀ x a : Nat, nI x + 100 * nI a = nI (x + 100 * a) := fun x a => by
    rw [show 100 * nI a = nI (100 * a) from pk_mul 100 a, nI_add]
  have e11 : ∀ i j : Nat, 11 * nI i + nI j = nI (11 * i + j) := fun i j => by
    rw [show 11 * nI i = nI (11 * i) from pk_mul 11 i, nI_add]
  have s1 : ∀ i : Nat, nI (i + 1) - 1 = nI i := fun i => pk_sub (a := i + 1) (b := 1) (by omega)
  have s2 : ∀ j : Nat, nI n + nI (j + 1) - 1 = nI (n + j) := fun j => by
    rw [nI_add]
    exact pk_sub (a := n + (j + 1)) (b := 1) (by omega)
  have s3 : ∀ i j : Nat, nI (11 * i + (j + 1)) - 1 = nI (11 * i + j) := fun i j => pk_sub (a := 11 * i + (j + 1)) (b := 1) (by omega)
  have far : (1000000 : Int32) = nI 1000000 := rfl
  have one : ∀ (i j : Nat) (u : am_V) (l6 : Option Value), i ≤ n → j ≤ m → (∀ k, k ≠ 100 → u k = v k) → (∀ i' j', i' ≤ 10 → j' ≤ 10 → ((i' < i ∧ j' ≤ m) ∨ (i' = i ∧ j' < j)) → u 100 (11 * i' + j') = nI (D i' j')) → (∀ (u' : am_V) (l6 : Option Value), (∀ k, k ≠ 100 → u' k = v k) → (∀ i' j', i' ≤ 10 → j' ≤ 10 → ((i' < i ∧ j' ≤ m) ∨ (i' = i ∧ j' < j + 1)) → u' 100 (11 * i' + j') = nI (D i' j')) → P (cd_X12_titles.drop 156, [some (.ref 62), some (.int (nI n)), some (.int (nI m)), some (.int what), some (.int (nI i)), some (.int (nI j)), l6], [], (am_sh, u', w), 0, 0)) → P (cd_X12_titles.drop 54, [some (.ref 62), some (.int (nI n)), some (.int (nI m)), some (.int what), some (.int (nI i)), some (.int (nI j)), l6], [], (am_sh, u, w), 0, 0) := by
    intro i j u l6 hi hj hfr hu kk
    have r2 : ∀ q, q < n + m → u 66 q &&& 255 = nI (t q) := fun q hq => by rw [hfr 66 (by omega)]; exact hv q hq
    have fin : ∀ x : Int32, x = nI (D i j) → P (cd_X12_titles.drop 147, [some (.ref 62), some (.int (nI n)), some (.int (nI m)), some (.int what), some (.int (nI i)), some (.int (nI j)), some (.int x)], [], (am_sh, u, w), 0, 0) := by
      intro x hx
      ((repeat' first | refine hP _ ?_ | fail); try dsimp only)
      rw [e11]
      refine ⟨vp_in_nI (by omega) (by omega), ?_⟩
      dsimp only
      rw [nI_clamp (by omega)]
      refine kk _ _ (fun k hk => by rw [am_up_ne _ _ _ hk]; exact hfr k hk) (fun i' j' z1 z2 z3 => ?_)
      rw [am_up_eq]
      by_cases y : i' = i ∧ j' = j
      · rw [if_pos ⟨rfl, by omega⟩, hx, y.1, y.2]
      · rw [if_neg (by omega)]
        exact hu i' j' z1 z2 (by omega)
    cases i with
    | zero =>
      cases j with
      | zero =>
        ((repeat' first | refine hP _ ?_ | fail); try dsimp only)
        refine ⟨fun z => absurd (by decide) z, fun _ => ?_⟩
        ((repeat' first | refine hP _ ?_ | fail); try dsimp only)
        refine ⟨fun _ => ?_, fun z => absurd (by decide) z⟩
        ((repeat' first | refine hP _ ?_ | fail); try dsimp only)
        refine ⟨fun _ => ?_, fun z => absurd (by decide) z⟩
        ((repeat' first | refine hP _ ?_ | fail); try dsimp only)
        refine ⟨fun _ => ?_, fun z => absurd (by decide) z⟩
        exact fin 0 (by rw [D00]; rfl)
      | succ j =>
        have pj : ¬ nI (j + 1) ≤ 0 := nI_nle (by omega) (by omega)
        have b1 := bd 0 j (by omega) (by omega)
        have b2 := (ht (n + j)).2
        have e0 := e11 0 (j + 1)
        ((repeat' first | refine hP _ ?_ | fail); try dsimp only)
        refine ⟨fun _ => ?_, fun z => absurd (show nI 0 + nI (j + 1) = 0 from z) (by rw [nI_add]; exact fun q => absurd ((nI_eq (b := 0) (by omega) (by omega)).mp q) (by omega))⟩
        ((repeat' first | refine hP _ ?_ | fail); try dsimp only)
        refine ⟨fun _ => ?_, fun z => absurd (by decide) z⟩
        ((repeat' first | refine hP _ ?_ | fail); try dsimp only)
        refine ⟨fun z => absurd z pj, fun _ => ?_⟩
        ((repeat' first | refine hP _ ?_ | fail); try dsimp only)
        rw [e11, s3]
        refine ⟨vp_in_nI (by omega) (by omega), ?_⟩
        ((repeat' first | refine hP _ ?_ | fail); try dsimp only)
        rw [s2]
        refine m_X12_octet (by omega) ?_
        rw [r2 _ (by omega)]
        ((repeat' first | refine hP _ ?_ | fail); try dsimp only)
        rw [nI_clamp (by omega), hu 0 j (by omega) (by omega) (by omega), e100, ← D0, far]
        have b3 := bd 0 (j + 1) (by omega) (by omega)
        refine m_X12_min ?_
        rw [f_mnN2 (by omega) (by omega), Nat.min_eq_right (by omega)]
        ((repeat' first | refine hP _ ?_ | fail); try dsimp only)
        refine ⟨fun _ => ?_, fun z => absurd (by decide) z⟩
        exact fin _ rfl
    | succ i =>
      have pi : ¬ nI (i + 1) ≤ 0 := nI_nle (by omega) (by omega)
      have b4 := (ht i)
      cases j with
      | zero =>
        have b1 := bd (i + 1) 0 (by omega) (by omega)
        ((repeat' first | refine hP _ ?_ | fail); try dsimp only)
        refine ⟨fun _ => ?_, fun z => absurd (show nI (i + 1) + nI 0 = 0 from z) (by rw [nI_add]; exact fun q => absurd ((nI_eq (b := 0) (by omega) (by omega)).mp q) (by omega))⟩
        ((repeat' first | refine hP _ ?_ | fail); try dsimp only)
        refine ⟨fun z => absurd z pi, fun _ => ?_⟩
        ((repeat' first | refine hP _ ?_ | fail); try dsimp only)
        rw [s1, e11]
        refine ⟨vp_in_nI (by omega) (by omega), ?_⟩
        ((repeat' first | refine hP _ ?_ | fail); try dsimp only)
        rw [s1]
        refine m_X12_octet (by omega) ?_
        rw [r2 _ (by omega)]
        ((repeat' first | refine hP _ ?_ | fail); try dsimp only)
        rw [nI_clamp (by omega), hu i 0 (by omega) (by omega) (by omega), e100, ← Dj, far]
        refine m_X12_min ?_
        rw [f_mnN2 (by omega) (by omega), Nat.min_eq_right (by omega)]
        ((repeat' first | refine hP _ ?_ | fail); try dsimp only)
        refine ⟨fun _ => ?_, fun z => absurd (by decide) z⟩
        ((repeat' first | refine hP _ ?_ | fail); try dsimp only)
        refine ⟨fun z => absurd z pi, fun _ => ?_⟩
        ((repeat' first | refine hP _ ?_ | fail); try dsimp only)
        refine ⟨fun _ => ?_, fun z => absurd (by decide) z⟩
        exact fin _ rfl
      | succ j =>
        have pj : ¬ nI (j + 1) ≤ 0 := nI_nle (by omega) (by omega)
        have b1 := bd i (j + 1) (by omega) (by omega)
        have b2 := bd (i + 1) j (by omega) (by omega)
        have b3 := bd i j (by omega) (by omega)
        have b5 := ht (n + j)
        have hmx : 1 ≤ max (t i) (t (n + j)) := Nat.le_trans b4.1 (Nat.le_max_left _ _)
        have hmx2 : max (t i) (t (n + j)) ≤ 255 := Nat.max_le.mpr ⟨b4.2, b5.2⟩
        ((repeat' first | refine hP _ ?_ | fail); try dsimp only)
        refine ⟨fun _ => ?_, fun z => absurd (show nI (i + 1) + nI (j + 1) = 0 from z) (by rw [nI_add]; exact fun q => absurd ((nI_eq (b := 0) (by omega) (by omega)).mp q) (by omega))⟩
        ((repeat' first | refine hP _ ?_ | fail); try dsimp only)
        refine ⟨fun z => absurd z pi, fun _ => ?_⟩
        ((repeat' first | refine hP _ ?_ | fail); try dsimp only)
        rw [s1, e11]
        refine ⟨vp_in_nI (by omega) (by omega), ?_⟩
        ((repeat' first | refine hP _ ?_ | fail); try dsimp only)
        rw [s1]
        refine m_X12_octet (by omega) ?_
        rw [r2 _ (by omega)]
        ((repeat' first | refine hP _ ?_ | fail); try dsimp only)
        rw [nI_clamp (by omega), hu i (j + 1) (by omega) (by omega) (by omega), e100, far]
        refine m_X12_min ?_
        rw [f_mnN2 (by omega) (by omega), Nat.min_eq_right (by omega)]
        ((repeat' first | refine hP _ ?_ | fail); try dsimp only)
        refine ⟨fun z => absurd z pj, fun _ => ?_⟩
        ((repeat' first | refine hP _ ?_ | fail); try dsimp only)
        rw [e11, s3]
        refine ⟨vp_in_nI (by omega) (by omega), ?_⟩
        ((repeat' first | refine hP _ ?_ | fail); try dsimp only)
        rw [s2]
        refine m_X12_octet (by omega) ?_
        rw [r2 _ (by omega)]
        ((repeat' first | refine hP _ ?_ | fail); try dsimp only)
        rw [nI_clamp (by omega), hu (i + 1) j (by omega) (by omega) (by omega), e100]
        refine m_X12_min ?_
        rw [f_mnN2 (by omega) (by omega)]
        ((repeat' first | refine hP _ ?_ | fail); try dsimp only)
        refine ⟨fun z => absurd z pi, fun _ => ?_⟩
        ((repeat' first | refine hP _ ?_ | fail); try dsimp only)
        refine ⟨fun z => absurd z pj, fun _ => ?_⟩
        ((repeat' first | refine hP _ ?_ | fail); try dsimp only)
        rw [s1, e11, s3]
        refine ⟨vp_in_nI (by omega) (by omega), ?_⟩
        ((repeat' first | refine hP _ ?_ | fail); try dsimp only)
        rw [s1]
        refine m_X12_octet (by omega) ?_
        rw [r2 _ (by omega)]
        ((repeat' first | refine hP _ ?_ | fail); try dsimp only)
        rw [s2]
        refine m_X12_octet (by omega) ?_
        rw [r2 _ (by omega)]
        ((repeat' first | refine hP _ ?_ | fail); try dsimp only)
        refine m_X12_max ?_
        rw [f_mxN2 (by omega) (by omega)]
        ((repeat' first | refine hP _ ?_ | fail); try dsimp only)
        rw [nI_clamp (by omega), hu i j (by omega) (by omega) (by omega), e100, show nI (D i j + 100 * max (t i) (t (n + j))) - 1 = nI (D i j + 100 * max (t i) (t (n + j)) - 1) from pk_sub (b := 1) (by omega)]
        refine m_X12_min ?_
        rw [f_mnN2 (Nat.lt_of_le_of_lt (Nat.min_le_left _ _) (by omega)) (by omega), ← Dij]
        ((iterate 1 refine hP _ ?_); try dsimp only)
        exact fin _ rfl
  have row : ∀ (q i j : Nat) (u : am_V) (l6 : Option Value), i ≤ n → j + q = m + 1 → (∀ k, k ≠ 100 → u k = v k) → (∀ i' j', i' ≤ 10 → j' ≤ 10 → ((i' < i ∧ j' ≤ m) ∨ (i' = i ∧ j' < j)) → u 100 (11 * i' + j') = nI (D i' j')) → (∀ (u' : am_V) (l5 l6 : Option Value), (∀ k, k ≠ 100 → u' k = v k) → (∀ i' j', i' ≤ 10 → j' ≤ 10 → i' < i + 1 ∧ j' ≤ m → u' 100 (11 * i' + j') = nI (D i' j')) → P (cd_X12_titles.drop 158, [some (.ref 62), some (.int (nI n)), some (.int (nI m)), some (.int what), some (.int (nI i)), l5, l6], [], (am_sh, u', w), 0, 0)) → P (cd_X12_titles.drop 51, [some (.ref 62), some (.int (nI n)), some (.int (nI m)), some (.int what), some (.int (nI i)), some (.int (nI j)), l6], [], (am_sh, u, w), 0, 0) := by
    intro q
    induction q with
    | zero =>
      intro i j u l6 hi hj hfr hu kk
      ((repeat' first | refine hP _ ?_ | fail); try dsimp only)
      refine ⟨fun _ => ?_, fun z => absurd (nI_lt (show m < j by omega) (by omega)) z⟩
      exact kk u _ _ hfr (fun i' j' z1 z2 z3 => hu i' j' z1 z2 (by omega))
    | succ q ih =>
      intro i j u l6 hi hj hfr hu kk
      ((repeat' first | refine hP _ ?_ | fail); try dsimp only)
      refine ⟨fun z => absurd z (nI_nlt (by omega) (by omega)), fun _ => ?_⟩
      refine one i j u l6 hi (by omega) hfr hu (fun u' l6 hfr' hu' => ?_)
      have e := ih i (j + 1) u' l6 hi (by omega) hfr' hu' kk
      rw [← nI_1] at e
      ((iterate 2 refine hP _ ?_); try dsimp only)
      exact e
  have outer : ∀ (q i : Nat) (u : am_V) (l5 l6 : Option Value), i + q = n + 1 → (∀ k, k ≠ 100 → u k = v k) → (∀ i' j', i' ≤ 10 → j' ≤ 10 → i' < i ∧ j' ≤ m → u 100 (11 * i' + j') = nI (D i' j')) → P (cd_X12_titles.drop 46, [some (.ref 62), some (.int (nI n)), some (.int (nI m)), some (.int what), some (.int (nI i)), l5, l6], [], (am_sh, u, w), 0, 0) := by
    intro q
    induction q with
    | zero =>
      intro i u l5 l6 hi hfr hu
      have b1 := bd n m (by omega) (by omega)
      ((repeat' first | refine hP _ ?_ | fail); try dsimp only)
      refine ⟨fun _ => ?_, fun z => absurd (nI_lt (show n < i by omega) (by omega)) z⟩
      ((repeat' first | refine hP _ ?_ | fail); try dsimp only)
      rw [e11]
      refine ⟨vp_in_nI (by omega) (by omega), ?_⟩
      have g1 : (nI (D n m) + 99) / 100 = nI B := by
        rw [show nI (D n m) + 99 = nI (D n m + 99) from nI_add _ 99, show (100 : Int32) = nI 100 from rfl, pk_div (by omega) (by omega) (by omega)]
        congr 1
        omega
      have g2 : 100 * nI B - nI (D n m) = nI c := by
        rw [show 100 * nI B = nI (100 * B) from pk_mul 100 B, pk_sub (by omega)]
        congr 1
        omega
      have hh := h u hfr
      ((repeat' first | refine hP _ ?_ | fail); try dsimp only)
      rw [nI_clamp (by omega), hu n m (by omega) (by omega) ⟨by omega, by omega⟩]
      refine ⟨by decide, ?_⟩
      ((repeat' first | refine hP _ ?_ | fail); try dsimp only)
      rw [g1]
      refine ⟨fun z => ?_, fun z => ?_⟩
      · ((repeat' first | refine hP _ ?_ | fail); try dsimp only)
        rw [g2]
        rw [if_neg z] at hh
        exact hh
      · ((repeat' first | refine hP _ ?_ | fail); try dsimp only)
        rw [if_pos z] at hh
        exact hh
    | succ q ih =>
      intro i u l5 l6 hi hfr hu
      ((repeat' first | refine hP _ ?_ | fail); try dsimp only)
      refine ⟨fun z => absurd z (nI_nlt (by omega) (by omega)), fun _ => ?_⟩
      ((iterate 2 refine hP _ ?_); try dsimp only)
      refine row (m + 1) i 0 u l6 (by omega) (by omega) hfr (fun i' j' z1 z2 z3 => hu i' j' z1 z2 (by omega)) (fun u' l5 l6 hfr' hu' => ?_)
      have e := ih (i + 1) u' l5 l6 (by omega) hfr' hu'
      rw [← nI_1] at e
      ((iterate 2 refine hP _ ?_); try dsimp only)
      exact e
  exact outer (n + 1) 0 v none none (by omega) (fun _ _ => rfl) (fun i' j' z1 z2 z3 => absurd z3.1 (by omega))
end M38
