/-! ===== table: the reference ===== -/
section M43
variable {K : am_K} {I : am_I} {d : Nat} {v : am_V} {w : am_X} {Q : Option Value → am_H → Prop}
set_option maxRecDepth 100000 in
set_option maxHeartbeats 4000000 in
theorem m_maySeat {n w0 m0 : Nat} {t f : Nat → Nat} (hn : 2 ≤ n ∧ n ≤ 6) (ht : ∀ j, t j < 256) (hv : ∀ j, j < n → v 66 j &&& 255 = nI (t j)) (hs : seR v 102 n f) (hf : ∀ i, i < n → f i < n) (h59 : v 62 59 = nI w0) (h60 : v 62 60 = nI m0) (hw0 : w0 ≤ 720) (hm0 : m0 ≤ 1000000) (h : ∀ (v' : am_V), v' 62 59 = nI (if tbB t f n n = 0 then w0 + 1 else w0) → v' 62 60 = nI (min m0 (tbB t f n n)) → (∀ k, k ≠ 62 → k ≠ 103 → v' k = v k) → (∀ j, j ≠ 59 → j ≠ 60 → v' 62 j = v 62 j) → (tbB t f n n = 0 ∧ w0 = 0 → seR v' 103 n f) → (¬ (tbB t f n n = 0 ∧ w0 = 0) → v' 103 = v 103) → Q none (am_sh, v', w)) : am_run K I am_m (d + 3) 224 [.ref 62, .int (nI n)] (am_sh, v, w) 0 0 Q := by
  refine en_X12_mayBeSeats rfl ?_
  intro P hP
  have hbl : tbB t f n n ≤ n := tbB_le t f n n
  ((repeat' first | refine hP _ ?_ | fail); try dsimp only)
  refine m_badR hn ht hv hs hf ?_
  ((repeat' first | refine hP _ ?_ | fail); try dsimp only)
  refine m_X12_min ?_
  rw [h60, f_mnN2 (by omega) (by omega)]
  ((repeat' first | refine hP _ ?_ | fail); try dsimp only)
  refine ⟨fun c => ?_, fun c => ?_⟩
  · have hz : tbB t f n n = 0 := (nI_eq (b := 0) (by omega) (by omega)).mp c
    ((repeat' first | refine hP _ ?_ | fail); try dsimp only)
    rw [show am_up v 62 60 (nI (min m0 (tbB t f n n))) 62 59 = nI w0 by simp [am_up_eq]; exact h59, nI_1]
    have lp : ∀ (k i : Nat) (u : am_V), i + k = n → (∀ j, j < i → u 103 j = nI (f j)) → (∀ k, k ≠ 103 → u k = am_up (am_up v 62 60 (nI (min m0 (tbB t f n n)))) 62 59 (nI (w0 + 1)) k) → w0 = 0 → P (cd_X12_mayBeSeats.drop 26, [some (.ref 62), some (.int (nI n)), some (.int (nI (tbB t f n n))), some (.int (nI i))], [], (am_sh, u, w), 0, 0) := by
      intro k
      induction k with
      | zero =>
        intro i u hi hu hfr hw
        ((repeat' first | refine hP _ ?_ | fail); try dsimp only)
        refine ⟨fun _ => ?_, fun z => absurd (nI_le (show n ≤ i by omega) (by omega)) z⟩
        ((repeat' first | refine hP _ ?_ | fail); try dsimp only)
        refine h u ?_ ?_ (fun k q1 q2 => ?_) (fun j q1 q2 => ?_) (fun _ j hj => ⟨hu j (by omega), (hs j hj).2⟩) (fun q => absurd ⟨hz, hw⟩ q)
        · rw [hfr 62 (by decide), am_up_eq, if_pos ⟨rfl, rfl⟩, if_pos hz]
        · rw [hfr 62 (by decide)]
          simp [am_up_eq]
        · rw [hfr k q2, am_up_ne _ _ _ q1, am_up_ne _ _ _ q1]
        · rw [hfr 62 (by decide)]
          simp [am_up_eq, q1, q2]
      | succ k ih =>
        intro i u hi hu hfr hw
        ((repeat' first | refine hP _ ?_ | fail); try dsimp only)
        refine ⟨fun z => absurd z (nI_ge (by omega) (by omega)), fun _ => ?_⟩
        ((repeat' first | refine hP _ ?_ | fail); try dsimp only)
        refine ⟨vp_in_nI (by omega) (by omega), ?_⟩
        ((repeat' first | refine hP _ ?_ | fail); try dsimp only)
        refine ⟨vp_in_nI (by omega) (by omega), ?_⟩
        dsimp only
        rw [nI_clamp (by omega)]
        have e := ih (i + 1) (am_up u 103 i (u 102 i)) (by omega) (fun j hj => by
          rw [am_up_eq]
          by_cases q : j = i
          · rw [if_pos ⟨rfl, q⟩, q, hfr 102 (by decide), am_up_ne _ _ _ (by decide), am_up_ne _ _ _ (by decide)]
            exact (hs i (by omega)).1
          · rw [if_neg (fun z => q z.2)]
            exact hu j (by omega)) (fun k hk => by rw [am_up_ne _ _ _ hk]; exact hfr k hk) hw
        rw [← nI_1] at e
        ((iterate 2 refine hP _ ?_); try dsimp only)
        exact e
    have hu59 : am_up (am_up v 62 60 (nI (min m0 (tbB t f n n)))) 62 59 (nI (w0 + 1)) 62 59 = nI (w0 + 1) := by simp [am_up_eq]
    rw [hu59]
    refine ⟨fun c2 => ?_, fun c2 => ?_⟩
    · have hw : w0 = 0 := by
        have := (nI_leI (b := 1) (by omega) (by omega)).mp c2
        omega
      ((iterate 2 refine hP _ ?_); try dsimp only)
      exact lp n 0 _ (by omega) (fun j hj => absurd hj (by omega)) (fun _ _ => rfl) hw
    · have hw : ¬ w0 = 0 := fun q => c2 (by rw [q]; decide)
      ((repeat' first | refine hP _ ?_ | fail); try dsimp only)
      refine h _ ?_ ?_ (fun k q1 q2 => ?_) (fun j q1 q2 => ?_) (fun q => absurd q.2 hw) (fun _ => ?_)
      · rw [am_up_eq, if_pos ⟨rfl, rfl⟩, if_pos hz]
      · simp [am_up_eq]
      · rw [am_up_ne _ _ _ q1, am_up_ne _ _ _ q1]
      · simp [am_up_eq, q1, q2]
      · rw [am_up_ne _ _ _ (by decide), am_up_ne _ _ _ (by decide)]
  · have hz : ¬ tbB t f n n = 0 := fun q => c (by rw [q]; rfl)
    ((repeat' first | refine hP _ ?_ | fail); try dsimp only)
    refine h _ ?_ ?_ (fun k q1 q2 => ?_) (fun j q1 q2 => ?_) (fun q => absurd q.1 hz) (fun _ => ?_)
    · simp [am_up_eq, hz]
      exact h59
    · simp [am_up_eq]
    · rw [am_up_ne _ _ _ q1]
    · simp [am_up_eq, q1, q2]
    · rw [am_up_ne _ _ _ (by decide)]
set_option maxRecDepth 100000 in
set_option maxHeartbeats 4000000 in
theorem lp_table2 {n : Nat} {b : Int32} {t : Nat → Nat} {P : am_C → Prop} {r0 : Nat × Nat × List Nat} (hn : 2 ≤ n ∧ n ≤ 6) (ht : ∀ j, t j < 256) (hv : ∀ j, j < n → v 66 j &&& 255 = nI (t j)) (hP : ∀ q, am_step K I (am_run K I am_m (d + 4)) cd_X12_table 0 0 Q P q → P q) (h : ∀ (v' : am_V) (l3 : Option Value), v' 62 59 = nI r0.1 → v' 62 60 = nI r0.2.1 → (0 < r0.1 → seR v' 103 n (tbf r0.2.2)) → (∀ k, k ≠ 62 → k ≠ 102 → k ≠ 103 → v' k = v k) → (∀ j, j ≠ 59 → j ≠ 60 → v' 62 j = v 62 j) → P (cd_X12_table.drop 56, [some (.ref 62), some (.int (nI n)), some (.int b), l3], [], (am_sh, v', w), 0, 0)) : ∀ (k : Nat) (u : am_V) (l bb : List Nat) (w0 m0 : Nat), k ≤ 720 → w0 + k = 720 ∨ w0 + k ≤ 720 → tbOk n k l = true → seR u 102 n (tbf l) → u 62 59 = nI w0 → u 62 60 = nI m0 → (0 < w0 → seR u 103 n (tbf bb)) → m0 ≤ 1000000 → (∀ k, k ≠ 62 → k ≠ 102 → k ≠ 103 → u k = v k) → (∀ j, j ≠ 59 → j ≠ 60 → u 62 j = v 62 j) → tbRes t n k l w0 m0 bb = r0 → P (cd_X12_table.drop 46, [some (.ref 62), some (.int (nI n)), some (.int b), some (.int 1)], [], (am_sh, u, w), 0, 0) := by
  intro k
  induction k with
  | zero =>
    intro u l bb w0 m0 _ _ hok
    cases hok
  | succ k ih =>
    intro u l bb w0 m0 hk hwk hok hs h59 h60 hb hm0 hfr hfr2 hres
    obtain ⟨ok1, ok2, ok3⟩ := tbOk_at hok
    ((repeat' first | refine hP _ ?_ | fail); try dsimp only)
    refine ⟨fun c => absurd c (by decide), fun _ => ?_⟩
    ((repeat' first | refine hP _ ?_ | fail); try dsimp only)
    refine m_maySeat hn ht (fun j hj => by rw [hfr 66 (by decide) (by decide) (by decide)]; exact hv j hj) hs ok2 h59 h60 (by omega) hm0 (fun u2 g59 g60 gfr gfr2 gs1 gs2 => ?_)
    ((repeat' first | refine hP _ ?_ | fail); try dsimp only)
    have s2 : seR u2 102 n (tbf l) := fun i hi => by rw [gfr 102 (by decide) (by decide)]; exact hs i hi
    have hmin : min m0 (tbB t (tbf l) n n) ≤ 1000000 := Nat.le_trans (Nat.min_le_left _ _) hm0
    have hbest : 0 < (if tbB t (tbf l) n n = 0 then w0 + 1 else w0) → seR u2 103 n (tbf (if tbB t (tbf l) n n = 0 ∧ w0 = 0 then l else bb)) := by
      intro q
      by_cases z : tbB t (tbf l) n n = 0 ∧ w0 = 0
      · rw [if_pos z]
        exact gs1 z
      · rw [if_neg z]
        intro i hi
        rw [gs2 z]
        refine hb ?_ i hi
        by_cases z2 : tbB t (tbf l) n n = 0
        · have : ¬ w0 = 0 := fun e => z ⟨z2, e⟩
          omega
        · rw [if_neg z2] at q
          exact q
    have hw1 : (if tbB t (tbf l) n n = 0 then w0 + 1 else w0) ≤ w0 + 1 := by split <;> omega
    have f2 : ∀ k, k ≠ 62 → k ≠ 102 → k ≠ 103 → u2 k = v k := fun k q1 q2 q3 => by rw [gfr k q1 q3]; exact hfr k q1 q2 q3
    have f3 : ∀ j, j ≠ 59 → j ≠ 60 → u2 62 j = v 62 j := fun j q1 q2 => by rw [gfr2 j q1 q2]; exact hfr2 j q1 q2
    refine m_nextR hn s2 (fun hnone => ?_) (fun g v4 hsome s4 f4 => ?_)
    · have e1 : tbN n l = none := by unfold tbN; rw [hnone]; rfl
      rw [tbRes, e1] at hres
      have e := h u2 (some (.int 0)) (by rw [← hres]; exact g59) (by rw [← hres]; exact g60) (by rw [← hres]; exact hbest) f2 f3
      ((repeat' first | refine hP _ ?_ | fail); try dsimp only)
      refine ⟨fun _ => ?_, fun c => absurd rfl c⟩
      exact e
    · have e1 : tbN n l = some ((List.range n).map g) := by unfold tbN; rw [hsome]; rfl
      rw [tbRes, e1] at hres
      have e := ih v4 ((List.range n).map g) _ _ _ (by omega) (by omega) (ok3 _ e1) (seR_map s4) (by rw [f4 62 (by decide)]; exact g59) (by rw [f4 62 (by decide)]; exact g60) (fun q i hi => by rw [f4 103 (by decide)]; exact hbest q i hi) hmin (fun k q1 q2 q3 => by rw [f4 k q2]; exact f2 k q1 q2 q3) (fun j q1 q2 => by rw [f4 62 (by decide)]; exact f3 j q1 q2) hres
      ((iterate 2 refine hP _ ?_); try dsimp only)
      exact e
end M43
