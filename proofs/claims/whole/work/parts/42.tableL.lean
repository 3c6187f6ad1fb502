/-! ===== table: all rows ===== -/
def tbf (l : List Nat) : Nat → Nat := fun i => l.getD i 0
def tbN (n : Nat) (l : List Nat) : Option (List Nat) := (nsN n (tbf l)).map (fun g => (List.range n).map g)
/-- from this row on it ends within so many rows, and all are rows of n -/
def tbOk (n : Nat) : Nat → List Nat → Bool
  | 0, _ => false
  | k + 1, l => Nat.beq l.length n && (l.all (fun x => Nat.blt x n) && (match tbN n l with
    | none => true
    | some l2 => tbOk n k l2))
theorem tbOk_2 : tbOk 2 720 [0, 1] = true := by decide +kernel
theorem tbOk_3 : tbOk 3 720 [0, 1, 2] = true := by decide +kernel
theorem tbOk_4 : tbOk 4 720 [0, 1, 2, 3] = true := by decide +kernel
theorem tbOk_5 : tbOk 5 720 [0, 1, 2, 3, 4] = true := by decide +kernel
theorem tbOk_6 : tbOk 6 720 [0, 1, 2, 3, 4, 5] = true := by decide +kernel
def tbRes (t : Nat → Nat) (n : Nat) : Nat → List Nat → Nat → Nat → List Nat → Nat × Nat × List Nat
  | 0, _, w, m, b => (w, m, b)
  | k + 1, l, w, m, b => match tbN n l with
    | none => (if tbB t (tbf l) n n = 0 then w + 1 else w, min m (tbB t (tbf l) n n), if tbB t (tbf l) n n = 0 ∧ w = 0 then l else b)
    | some l2 => tbRes t n k l2 (if tbB t (tbf l) n n = 0 then w + 1 else w) (min m (tbB t (tbf l) n n)) (if tbB t (tbf l) n n = 0 ∧ w = 0 then l else b)
theorem tbRes_m {t : Nat → Nat} {n k w m1 m2 : Nat} {l b : List Nat} (h1 : tbB t (tbf l) n n ≤ m1) (h2 : tbB t (tbf l) n n ≤ m2) : tbRes t n (k + 1) l w m1 b = tbRes t n (k + 1) l w m2 b := by
  unfold tbRes
  rw [Nat.min_eq_right h1, Nat.min_eq_right h2]
theorem tbOk_at {n k : Nat} {l : List Nat} (h : tbOk n (k + 1) l = true) : l.length = n ∧ (∀ i, i < n → tbf l i < n) ∧ ∀ l2, tbN n l = some l2 → tbOk n k l2 = true := by
  obtain ⟨h1, h2⟩ := (Bool.and_eq_true _ _).mp h
  obtain ⟨h2, h3⟩ := (Bool.and_eq_true _ _).mp h2
  have hl := Nat.eq_of_beq_eq_true h1
  refine ⟨hl, fun i hi => ?_, fun l2 hl2 => ?_⟩
  · have hm : l[i]'(by omega) ∈ l := List.getElem_mem _
    have := am_blt (List.all_eq_true.mp h2 _ hm)
    unfold tbf
    rw [List.getD_eq_getElem?_getD, List.getElem?_eq_getElem (by omega)]
    exact this
  · rw [hl2] at h3
    exact h3
theorem tbf_map {n : Nat} {g : Nat → Nat} {i : Nat} (hi : i < n) : tbf ((List.range n).map g) i = g i := by
  unfold tbf
  simp [List.getD_eq_getElem?_getD, hi]
theorem seR_map {v : am_V} {c n : Nat} {g : Nat → Nat} (h : seR v c n g) : seR v c n (tbf ((List.range n).map g)) := fun i hi => by rw [tbf_map hi]; exact h i hi
theorem am_cpy_eq (v : am_V) (k k2 n a b : Nat) : am_cpy v k k2 0 0 n a b = if a = k2 ∧ b < n then v k b else v a b := by
  unfold am_cpy
  by_cases h1 : a = k2
  · subst h1
    rw [am_beq]
    by_cases h2 : b < n
    · rw [show (true && (Nat.ble 0 b && Nat.blt b (0 + n))) = true by
        rw [Nat.ble_eq_true_of_le (Nat.zero_le b), Nat.zero_add, show Nat.blt b n = true from Nat.ble_eq_true_of_le h2]; rfl]
      simp [h2]
    · rw [show (true && (Nat.ble 0 b && Nat.blt b (0 + n))) = false by
        rw [Nat.zero_add]
        cases hh : Nat.blt b n with
        | false => simp
        | true => exact absurd (am_blt hh) h2]
      simp [h2]
  · rw [am_bne h1]
    simp [h1]
section M42
variable {K : am_K} {I : am_I} {d : Nat} {v : am_V} {w : am_X} {Q : Option Value → am_H → Prop}
set_option maxRecDepth 100000 in
set_option maxHeartbeats 4000000 in
theorem m_seatAll {n tn : Nat} {t : Nat → Nat} {l0 : List Nat} (hn : 2 ≤ n ∧ n ≤ 6) (ht : ∀ j, t j < 256) (htn : v 1 1 = nI tn) (htn2 : tn ≤ 260) (hnt : n ≤ tn) (hv : ∀ j, j < tn → v 2 j = nI (t j)) (hl0 : tbOk n 720 l0 = true) (hid : ∀ i, i < n → tbf l0 i = i) (h : ∀ (v' : am_V) (w0 m0 : Nat) (b : List Nat), tbRes t n 720 l0 0 n [] = (w0, m0, b) → v' 43 8 = nI w0 → v' 43 9 = nI m0 → (0 < w0 → seR v' 60 n (tbf b)) → w0 ≤ 720 → m0 ≤ 6 → (∀ k, k ≠ 43 → k ≠ 59 → k ≠ 60 → v' k = v k) → Q none (am_sh, v', w)) : am_run K I am_m (d + 3) 8 [.ref 43, .int (nI n)] (am_sh, v, w) 0 0 Q := by
  refine en_X0_seatAll rfl ?_
  intro P hP
  have main : ∀ (k i : Nat) (u : am_V) (l b : List Nat) (w0 m0 : Nat) (l3 : Option Value), i + k = 720 → tbOk n k l = true → seR u 59 n (tbf l) → u 43 8 = nI w0 → u 43 9 = nI m0 → (0 < w0 → seR u 60 n (tbf b)) → w0 ≤ i → m0 ≤ 6 → (∀ k, k ≠ 43 → k ≠ 59 → k ≠ 60 → u k = v k) → tbRes t n k l w0 m0 b = tbRes t n 720 l0 0 n [] → P (cd_X0_seatAll.drop 23, [some (.ref 43), some (.int (nI n)), some (.int (nI i)), l3], [], (am_sh, u, w), 0, 0) := by
    intro k
    induction k with
    | zero =>
      intro i u l b w0 m0 l3 hi hok
      cases hok
    | succ k ih =>
      intro i u l b w0 m0 l3 hi hok hs h8 h9 hb hw0 hm0 hfr hres
      obtain ⟨ok1, ok2, ok3⟩ := tbOk_at hok
      have hbl : tbB t (tbf l) n n ≤ n := tbB_le t (tbf l) n n
      ((repeat' first | refine hP _ ?_ | fail); try dsimp only)
      refine ⟨fun z => absurd ((nI_leI (a := 720) (by omega) (by omega)).mp z) (by omega), fun _ => ?_⟩
      ((repeat' first | refine hP _ ?_ | fail); try dsimp only)
      refine m_badC hn ht (by rw [hfr 1 (by decide) (by decide) (by decide)]; exact htn) htn2 hnt (fun j hj => by rw [hfr 2 (by decide) (by decide) (by decide)]; exact hv j hj) hs ok2 ?_
      -- behind the copy and the count
      have last : ∀ (u2 : am_V) (w1 : Nat) (b1 : List Nat), w1 = (if tbB t (tbf l) n n = 0 then w0 + 1 else w0) → b1 = (if tbB t (tbf l) n n = 0 ∧ w0 = 0 then l else b) → seR u2 59 n (tbf l) → u2 43 8 = nI w1 → u2 43 9 = nI m0 → (0 < w1 → seR u2 60 n (tbf b1)) → (∀ k, k ≠ 43 → k ≠ 59 → k ≠ 60 → u2 k = v k) → P (cd_X0_seatAll.drop 51, [some (.ref 43), some (.int (nI n)), some (.int (nI i)), some (.int (nI (tbB t (tbf l) n n)))], [], (am_sh, u2, w), 0, 0) := by
        intro u2 w1 b1 hw1 hb1 g59 g8 g9 g60 gfr
        have hw1' : w1 ≤ w0 + 1 := by rw [hw1]; split <;> omega
        ((repeat' first | refine hP _ ?_ | fail); try dsimp only)
        rw [show (if nI (tbB t (tbf l) n n) < u2 43 9 then nI (tbB t (tbf l) n n) else u2 43 9) = nI (min m0 (tbB t (tbf l) n n)) by rw [g9]; exact f_mnN (by omega) (by omega)]
        generalize hu3 : am_up u2 43 9 (nI (min m0 (tbB t (tbf l) n n))) = u3
        have k59 : seR u3 59 n (tbf l) := fun i hi => by rw [← hu3, am_up_ne _ _ _ (by decide)]; exact g59 i hi
        have k60 : 0 < w1 → seR u3 60 n (tbf b1) := fun q i hi => by rw [← hu3, am_up_ne _ _ _ (by decide)]; exact g60 q i hi
        have k8 : u3 43 8 = nI w1 := by rw [← hu3]; simp [am_up_eq]; exact g8
        have k9 : u3 43 9 = nI (min m0 (tbB t (tbf l) n n)) := by rw [← hu3]; simp [am_up_eq]
        have kfr : ∀ k, k ≠ 43 → k ≠ 59 → k ≠ 60 → u3 k = v k := fun k q1 q2 q3 => by rw [← hu3, am_up_ne _ _ _ q1]; exact gfr k q1 q2 q3
        have hmin : min m0 (tbB t (tbf l) n n) ≤ 6 := Nat.le_trans (Nat.min_le_left _ _) hm0
        refine m_nextC hn k59 (fun hnone => ?_) (fun g v4 hsome s4 f4 => ?_)
        · ((repeat' first | refine hP _ ?_ | fail); try dsimp only)
          refine ⟨fun c => absurd rfl c, fun _ => ?_⟩
          ((repeat' first | refine hP _ ?_ | fail); try dsimp only)
          refine h u3 w1 (min m0 (tbB t (tbf l) n n)) b1 ?_ k8 k9 k60 (by omega) hmin kfr
          rw [← hres, tbRes, show tbN n l = none by unfold tbN; rw [hnone]; rfl, hw1, hb1]
        · have e1 : tbN n l = some ((List.range n).map g) := by unfold tbN; rw [hsome]; rfl
          have e := ih (i + 1) v4 ((List.range n).map g) b1 w1 (min m0 (tbB t (tbf l) n n)) (some (.int (nI (tbB t (tbf l) n n)))) (by omega) (ok3 _ e1) (seR_map s4) (by rw [f4 43 (by decide)]; exact k8) (by rw [f4 43 (by decide)]; exact k9) (fun q i hi => by rw [f4 60 (by decide)]; exact k60 q i hi) (by omega) hmin (fun k q1 q2 q3 => by rw [f4 k q2]; exact kfr k q1 q2 q3) (by rw [← hres, tbRes, e1, hw1, hb1])
          rw [← nI_1] at e
          ((repeat' first | refine hP _ ?_ | fail); try dsimp only)
          refine ⟨fun _ => ?_, fun c => absurd c (by decide)⟩
          ((iterate 2 refine hP _ ?_); try dsimp only)
          exact e
      -- the count
      have count : ∀ (u2 : am_V) (b1 : List Nat), tbB t (tbf l) n n = 0 → b1 = (if w0 = 0 then l else b) → seR u2 59 n (tbf l) → u2 43 8 = nI w0 → u2 43 9 = nI m0 → seR u2 60 n (tbf b1) → (∀ k, k ≠ 43 → k ≠ 59 → k ≠ 60 → u2 k = v k) → P (cd_X0_seatAll.drop 43, [some (.ref 43), some (.int (nI n)), some (.int (nI i)), some (.int (nI (tbB t (tbf l) n n)))], [], (am_sh, u2, w), 0, 0) := by
        intro u2 b1 hz hb1 g59 g8 g9 g60 gfr
        ((repeat' first | refine hP _ ?_ | fail); try dsimp only)
        refine ⟨fun c => absurd (by rw [hz]; rfl) c, fun _ => ?_⟩
        have e := last (am_up u2 43 8 (nI w0 + 1)) (w0 + 1) b1 (by rw [if_pos hz]) (by rw [hb1]; by_cases q : w0 = 0 <;> simp [q, hz]) (fun i hi => by rw [am_up_ne _ _ _ (by decide)]; exact g59 i hi) (by rw [am_up_eq, if_pos ⟨rfl, rfl⟩, nI_1]) (by simp [am_up_eq]; exact g9) (fun _ i hi => by rw [am_up_ne _ _ _ (by decide)]; exact g60 i hi) (fun k q1 q2 q3 => by rw [am_up_ne _ _ _ q1]; exact gfr k q1 q2 q3)
        rw [← g8] at e
        ((iterate 6 refine hP _ ?_); try dsimp only)
        exact e
      ((repeat' first | refine hP _ ?_ | fail); try dsimp only)
      refine ⟨fun c => ?_, fun c => ?_⟩
      · have hz : ¬ tbB t (tbf l) n n = 0 := fun q => c (by rw [q]; rfl)
        ((repeat' first | refine hP _ ?_ | fail); try dsimp only)
        refine ⟨fun _ => ?_, fun z => absurd z c⟩
        refine last u w0 b (by rw [if_neg hz]) (by rw [if_neg (fun q => hz q.1)]) hs h8 h9 hb hfr
      · have hz : tbB t (tbf l) n n = 0 := (nI_eq (b := 0) (by omega) (by omega)).mp c
        ((repeat' first | refine hP _ ?_ | fail); try dsimp only)
        rw [h8]
        refine ⟨fun c2 => ?_, fun c2 => ?_⟩
        · have hw : ¬ w0 = 0 := fun q => c2 (by rw [q]; rfl)
          exact count u b hz (by rw [if_neg hw]) hs h8 h9 (hb (by omega)) hfr
        · have hw : w0 = 0 := (nI_eq (b := 0) (by omega) (by omega)).mp c2
          ((repeat' first | refine hP _ ?_ | fail); try dsimp only)
          refine ⟨⟨by decide, by decide, by decide, by decide, by decide⟩, ?_⟩
          rw [show Int32.toNatClampNeg 0 = 0 from rfl, show Int32.toNatClampNeg 6 = 6 from rfl]
          refine count _ l hz (by rw [if_pos hw]) (fun i hi => ?_) ?_ ?_ (fun i hi => ?_) (fun k q1 q2 q3 => ?_)
          · rw [am_cpy_eq, if_neg (by omega)]
            exact hs i hi
          · rw [am_cpy_eq, if_neg (by omega)]
            exact h8
          · rw [am_cpy_eq, if_neg (by omega)]
            exact h9
          · rw [am_cpy_eq, if_pos ⟨rfl, by omega⟩]
            exact hs i hi
          · funext x
            rw [am_cpy_eq, if_neg (fun q => q3 q.1)]
            show u k x = v k x
            rw [hfr k q1 q2 q3]
  have fill : ∀ (k i : Nat) (u : am_V), i + k = n → (∀ j, j < i → u 59 j = nI j) → (∀ k, k ≠ 59 → u k = v k) → P (cd_X0_seatAll.drop 2, [some (.ref 43), some (.int (nI n)), some (.int (nI i)), none], [], (am_sh, u, w), 0, 0) := by
    intro k
    induction k with
    | zero =>
      intro i u hi hu hfr
      ((repeat' first | refine hP _ ?_ | fail); try dsimp only)
      refine ⟨fun _ => ?_, fun z => absurd (nI_le (show n ≤ i by omega) (by omega)) z⟩
      have e := main 720 0 (am_up (am_up u 43 8 0) 43 9 (nI n)) l0 [] 0 n none rfl hl0 (fun j hj => by
        rw [am_up_ne _ _ _ (by decide), am_up_ne _ _ _ (by decide), hid j hj]
        exact ⟨hu j (by omega), by omega⟩) (by simp [am_up_eq]; rfl) (by simp [am_up_eq]) (fun q => absurd q (by omega)) (by omega) (by omega) (fun k q1 q2 q3 => by rw [am_up_ne _ _ _ q1, am_up_ne _ _ _ q1]; exact hfr k q2) rfl
      ((iterate 8 refine hP _ ?_); try dsimp only)
      exact e
    | succ k ih =>
      intro i u hi hu hfr
      ((repeat' first | refine hP _ ?_ | fail); try dsimp only)
      refine ⟨fun z => absurd z (nI_ge (by omega) (by omega)), fun _ => ?_⟩
      ((repeat' first | refine hP _ ?_ | fail); try dsimp only)
      refine ⟨fun z => absurd ((nI_leI (a := 6) (by omega) (by omega)).mp z) (by omega), fun _ => ?_⟩
      ((repeat' first | refine hP _ ?_ | fail); try dsimp only)
      refine ⟨vp_in_nI (by omega) (by omega), ?_⟩
      dsimp only
      rw [nI_clamp (by omega)]
      have e := ih (i + 1) (am_up u 59 i (nI i)) (by omega) (fun j hj => by
        rw [am_up_eq]
        by_cases q : j = i
        · simp [q]
        · simp [q]
          exact hu j (by omega)) (fun k hk => by rw [am_up_ne _ _ _ hk]; exact hfr k hk)
      rw [← nI_1] at e
      ((iterate 2 refine hP _ ?_); try dsimp only)
      exact e
  ((iterate 2 refine hP _ ?_); try dsimp only)
  exact fill n 0 v (by omega) (fun j hj => absurd hj (by omega)) (fun _ _ => rfl)
end M42
