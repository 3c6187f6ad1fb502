/-! ===== gifts: the reference ===== -/
theorem gC_n {s n : Nat} (hs : s < 2 ^ n) : ∀ k, gC s (n + k) = gC s n
  | 0 => rfl
  | k + 1 => by
    show gC s (n + k) + s / 2 ^ (n + k) % 2 = gC s n
    have h : 2 ^ n ≤ 2 ^ (n + k) := Nat.pow_le_pow_right (by decide) (by omega)
    rw [gC_n hs k, Nat.div_eq_of_lt (by omega)]
    rfl
theorem gC_le (s : Nat) : ∀ k, gC s k ≤ k
  | 0 => Nat.le_refl _
  | k + 1 => by
    have := gC_le s k
    unfold gC
    omega
theorem gC_0 : ∀ k, gC 0 k = 0
  | 0 => rfl
  | k + 1 => by
    unfold gC
    rw [gC_0 k]
    simp
theorem gC_pos : ∀ s, s < 256 → 1 ≤ s → 1 ≤ gC s 8 := by decide +kernel
theorem gMask : ∀ s, s < 256 → ∀ j, j < 8 → s / 2 ^ j % 2 = 1 → nI s &&& ((1 <<< (nI j &&& 31)) ^^^ (-1)) = nI (s - 2 ^ j) := by decide +kernel
theorem gBitLe : ∀ s, s < 256 → ∀ j, j < 8 → s / 2 ^ j % 2 = 1 → 2 ^ j ≤ s := by decide +kernel
theorem gGood_0 {m : Bool} {cap n : Nat} {a b : Nat → Nat} : gGood m cap a b n 0 0 := by
  unfold gGood
  rw [gC_0]
  have : ∀ (m : Bool) (Y : List Nat), gS m (gA a 0) Y = 0 := fun m Y => by
    unfold gA
    cases Y <;> rfl
  rw [this]
  exact ⟨Nat.le_refl _, fun _ => Nat.le_refl _⟩
section M51
variable {K : am_K} {I : am_I} {d : Nat} {v : am_V} {w : am_X} {Q : Option Value → am_H → Prop}
set_option maxRecDepth 100000 in
set_option maxHeartbeats 4000000 in
theorem m_bits {s n : Nat} (hs : s < 2 ^ n) (hn : n ≤ 16) (h : Q (some (.int (nI (gC s n)))) (am_sh, v, w)) : am_run K I am_m (d + 1) 143 [.int (nI s)] (am_sh, v, w) 0 0 Q := by
  refine en_X12_bits rfl ?_
  intro P hP
  have hp : 2 ^ n ≤ 2 ^ 16 := Nat.pow_le_pow_right (by decide) hn
  have key : ∀ (k i : Nat), i + k = 16 → P (cd_X12_bits.drop 4, [some (.int (nI s)), some (.int (nI (gC s i))), some (.int (nI i))], [], (am_sh, v, w), 0, 0) := by
    intro k
    induction k with
    | zero =>
      intro i hi
      rw [show i = 16 by omega]
      ((repeat' first | refine hP _ ?_ | fail); try dsimp only)
      refine ⟨fun _ => ?_, fun z => absurd (by decide) z⟩
      ((repeat' first | refine hP _ ?_ | fail); try dsimp only)
      have := gC_n hs (16 - n)
      rw [show n + (16 - n) = 16 by omega] at this
      rw [this]
      exact h
    | succ k ih =>
      intro i hi
      have e := ih (i + 1) (by omega)
      have h1 : s / 2 ^ i < 2 ^ 32 := Nat.lt_of_le_of_lt (Nat.div_le_self _ _) (by omega)
      rw [← nI_1, gC, ← nI_add, ← and1N h1, ← shrN (by omega) (by omega)] at e
      ((repeat' first | refine hP _ ?_ | fail); try dsimp only)
      refine ⟨fun z => absurd ((nI_leI (a := 16) (by omega) (by omega)).mp z) (by omega), fun _ => ?_⟩
      ((iterate 10 refine hP _ ?_); try dsimp only)
      exact e
  ((iterate 4 refine hP _ ?_); try dsimp only)
  exact key 16 0 rfl
set_option maxRecDepth 100000 in
set_option maxHeartbeats 4000000 in
theorem m_unlike {n k j : Nat} {t : Nat → Nat} (hn : n ≤ 8) (hk : k < n) (hj : j < n) (ht : ∀ j, t j < 256) (hv : ∀ j, j < 2 * n → v 66 j &&& 255 = nI (t j)) (h : Q (some (.int (nI (adif (t k) (t (n + j)))))) (am_sh, v, w)) : am_run K I am_m (d + 2) 216 [.ref 62, .int (nI n), .int (nI k), .int (nI j)] (am_sh, v, w) 0 0 Q := by
  refine en_X12_unlike rfl ?_
  intro P hP
  have h1 := ht k
  have h2 := ht (n + j)
  ((repeat' first | refine hP _ ?_ | fail); try dsimp only)
  refine m_X12_octet (by omega) ?_
  rw [hv k (by omega)]
  ((repeat' first | refine hP _ ?_ | fail); try dsimp only)
  rw [nI_add]
  refine m_X12_octet (by omega) ?_
  rw [hv (n + j) (by omega)]
  ((repeat' first | refine hP _ ?_ | fail); try dsimp only)
  refine m_X12_size ?_
  rw [ab2 (by omega) (by omega)]
  ((repeat' first | refine hP _ ?_ | fail); try dsimp only)
  exact h
set_option maxRecDepth 100000 in
set_option maxHeartbeats 4000000 in
theorem m_leastGifts {n cap : Nat} {m : Bool} {c : Int32} {t : Nat → Nat} (hn : 1 ≤ n ∧ n ≤ 8) (hc : (m = true ∧ c = -1) ∨ (m = false ∧ c = nI cap ∧ cap ≤ 2040)) (ht : ∀ j, t j < 256) (hv : ∀ j, j < 2 * n → v 66 j &&& 255 = nI (t j)) (h : ∀ (v' : am_V) (X : Nat), gGood m cap t (fun i => t (n + i)) n (2 ^ n - 1) X → (∀ k, k ≠ 101 → v' k = v k) → Q (some (.int (nI X))) (am_sh, v', w)) : am_run K I am_m (d + 3) 217 [.ref 62, .int (nI n), .int c] (am_sh, v, w) 0 0 Q := by
  refine en_X12_leastGifts rfl ?_
  intro P hP
  have hp8 : 2 ^ n ≤ 2 ^ 8 := Nat.pow_le_pow_right (by decide) hn.2
  have hp1 : 0 < 2 ^ n := Nat.pow_pos (by decide)
  have outer : ∀ (k s : Nat) (u : am_V) (g : Nat → Nat) (l4 l5 l6 l7 : Option Value), 1 ≤ s → s + k = 2 ^ n → (∀ i, i < s → u 101 i = nI (g i) ∧ g i ≤ 1000000 ∧ gGood m cap t (fun i => t (n + i)) n i (g i)) → (∀ k, k ≠ 101 → u k = v k) → P (cd_X12_leastGifts.drop 7, [some (.ref 62), some (.int (nI n)), some (.int c), some (.int (nI s)), l4, l5, l6, l7], [], (am_sh, u, w), 0, 0) := by
    intro k
    induction k with
    | zero =>
      intro s u g l4 l5 l6 l7 hs1 hs hu hf
      ((repeat' first | refine hP _ ?_ | fail); try dsimp only)
      rw [cu_all2 n (by omega)]
      refine ⟨fun _ => ?_, fun z => absurd (nI_le (show 2 ^ n ≤ s by omega) (by omega)) z⟩
      ((repeat' first | refine hP _ ?_ | fail); try dsimp only)
      rw [cu_all n (by omega)]
      refine ⟨vp_in_nI (by omega) (by omega), ?_⟩
      ((repeat' first | refine hP _ ?_ | fail); try dsimp only)
      obtain ⟨e1, _, e2⟩ := hu (2 ^ n - 1) (by omega)
      rw [nI_clamp (by omega), e1]
      exact h u _ e2 hf
    | succ k ih =>
      intro s u g l4 l5 l6 l7 hs1 hs hu hf
      have hs8 : s < 256 := by omega
      have hcs : gC s n = gC s 8 := by
        have := gC_n (s := s) (n := n) (by omega) (8 - n)
        rw [show n + (8 - n) = 8 by omega] at this
        exact this.symm
      have hcp := gC_pos s hs8 hs1
      have hcn := gC_le s n
      generalize hkk : gC s n - 1 = kk
      have hk1 : gC s n = kk + 1 := by omega
      have inner : ∀ (k2 j : Nat) (u2 : am_V) (X : Nat) (l6 l7 : Option Value), j + k2 = n → u2 101 s = nI X → X ≤ 1000000 → (∀ i, i ≠ s → u2 101 i = u 101 i) → (∀ k, k ≠ 101 → u2 k = v k) → (∀ i, i < j → s / 2 ^ i % 2 = 1 → (m = true ∨ adif (t kk) (t (n + i)) ≤ cap) → X ≤ gOp m (g (s - 2 ^ i)) (adif (t kk) (t (n + i)))) → (X = 1000000 ∨ ∃ i, i < n ∧ s / 2 ^ i % 2 = 1 ∧ X = gOp m (g (s - 2 ^ i)) (adif (t kk) (t (n + i)))) → P (cd_X12_leastGifts.drop 24, [some (.ref 62), some (.int (nI n)), some (.int c), some (.int (nI s)), some (.int (nI kk)), some (.int (nI j)), l6, l7], [], (am_sh, u2, w), 0, 0) := by
        intro k2
        induction k2 with
        | zero =>
          intro j u2 X l6 l7 hj hX hX2 hu2 hf2 h1 h2
          have hgood : gGood m cap t (fun i => t (n + i)) n s X := gGood_step ht (fun j => ht (n + j)) hn.2 hs8 hk1 (g := fun j => g (s - 2 ^ j)) (fun j hj hb => (hu (s - 2 ^ j) (by have := gBitLe s hs8 j (by omega) hb; have := Nat.pow_pos (n := j) (show 0 < 2 by decide); omega)).2.2) (fun i hi => h1 i (by omega)) h2
          have e := ih (s + 1) u2 (fun i => if i = s then X else g i) (some (.int (nI kk))) (some (.int (nI j))) l6 l7 (by omega) (by omega) (fun i hi => by
            by_cases q : i = s
            · subst q
              simp only [if_true]
              exact ⟨hX, hX2, hgood⟩
            · simp only [if_neg q]
              rw [hu2 i q]
              exact hu i (by omega)) hf2
          rw [← nI_1] at e
          ((repeat' first | refine hP _ ?_ | fail); try dsimp only)
          refine ⟨fun _ => ?_, fun z => absurd (nI_le (show n ≤ j by omega) (by omega)) z⟩
          ((iterate 2 refine hP _ ?_); try dsimp only)
          exact e
        | succ k2 ih2 =>
          intro j u2 X l6 l7 hj hX hX2 hu2 hf2 h1 h2
          have next : ∀ (u3 : am_V) (X' : Nat) (l6 l7 : Option Value), u3 101 s = nI X' → X' ≤ X → (∀ i, i ≠ s → u3 101 i = u 101 i) → (∀ k, k ≠ 101 → u3 k = v k) → (s / 2 ^ j % 2 = 1 → (m = true ∨ adif (t kk) (t (n + j)) ≤ cap) → X' ≤ gOp m (g (s - 2 ^ j)) (adif (t kk) (t (n + j)))) → (X' = X ∨ (s / 2 ^ j % 2 = 1 ∧ X' = gOp m (g (s - 2 ^ j)) (adif (t kk) (t (n + j))))) → P (cd_X12_leastGifts.drop 80, [some (.ref 62), some (.int (nI n)), some (.int c), some (.int (nI s)), some (.int (nI kk)), some (.int (nI j)), l6, l7], [], (am_sh, u3, w), 0, 0) := by
            intro u3 X' l6 l7 e1 e2 e3 e4 e5 e6
            have e := ih2 (j + 1) u3 X' l6 l7 (by omega) e1 (by omega) e3 e4 (fun i hi hb hc => by
              by_cases q : i = j
              · subst q
                exact e5 hb hc
              · exact Nat.le_trans e2 (h1 i (by omega) hb hc)) (by
              rcases e6 with q | q
              · rw [q]; exact h2
              · exact Or.inr ⟨j, by omega, q.1, q.2⟩)
            rw [← nI_1] at e
            ((iterate 2 refine hP _ ?_); try dsimp only)
            exact e
          ((repeat' first | refine hP _ ?_ | fail); try dsimp only)
          refine ⟨fun z => absurd z (nI_ge (by omega) (by omega)), fun _ => ?_⟩
          ((repeat' first | refine hP _ ?_ | fail); try dsimp only)
          refine m_X12_has ?_
          rw [f_hasN (by omega) (by omega)]
          ((repeat' first | refine hP _ ?_ | fail); try dsimp only)
          by_cases q : s / 2 ^ j % 2 = 1
          · rw [if_pos q]
            refine ⟨fun _ => ?_, fun e => absurd e (by decide)⟩
            have hbl := gBitLe s hs8 j (by omega) q
            have hpj := Nat.pow_pos (n := j) (show 0 < 2 by decide)
            have had : adif (t kk) (t (n + j)) < 256 := by
              have a1 := ht kk
              have a2 := ht (n + j)
              unfold adif
              split <;> omega
            obtain ⟨r1, r2, r3⟩ := hu (s - 2 ^ j) (by omega)
            ((repeat' first | refine hP _ ?_ | fail); try dsimp only)
            rw [gMask s hs8 j (by omega) q]
            refine ⟨vp_in_nI (by omega) (by omega), ?_⟩
            dsimp only
            rw [nI_clamp (by omega), hu2 _ (by omega), r1]
            ((repeat' first | refine hP _ ?_ | fail); try dsimp only)
            refine m_unlike (t := t) hn.2 (by omega) (by omega) ht (fun i hi => by rw [hf2 66 (by decide)]; exact hv i hi) ?_
            ((repeat' first | refine hP _ ?_ | fail); try dsimp only)
            rcases hc with ⟨rfl, rfl⟩ | ⟨rfl, rfl, hcap⟩
            · refine ⟨fun e => absurd rfl e, fun _ => ?_⟩
              ((repeat' first | refine hP _ ?_ | fail); try dsimp only)
              refine ⟨vp_in_nI (by omega) (by omega), ?_⟩
              ((repeat' first | refine hP _ ?_ | fail); try dsimp only)
              refine m_X12_max ?_
              rw [nI_clamp (by omega), hX, f_mxN2 (by omega) (by omega)]
              ((repeat' first | refine hP _ ?_ | fail); try dsimp only)
              refine m_X12_min ?_
              rw [f_mnN2 (by omega) (by omega)]
              ((repeat' first | refine hP _ ?_ | fail); try dsimp only)
              refine ⟨vp_in_nI (by omega) (by omega), ?_⟩
              dsimp only
              rw [nI_clamp (by omega)]
              ((iterate 1 refine hP _ ?_); try dsimp only)
              refine next _ (min X (max (g (s - 2 ^ j)) (adif (t kk) (t (n + j))))) _ _ ?_ (Nat.min_le_left _ _) (fun i hi => ?_) (fun k hk => ?_) (fun _ _ => Nat.min_le_right _ _) ?_
              · rw [am_up_eq, if_pos ⟨rfl, rfl⟩]
              · rw [am_up_eq, if_neg (fun z => hi z.2)]
                exact hu2 i hi
              · rw [am_up_ne _ _ _ hk]
                exact hf2 k hk
              · rcases Nat.le_total X (max (g (s - 2 ^ j)) (adif (t kk) (t (n + j)))) with y | y
                · exact Or.inl (Nat.min_eq_left y)
                · exact Or.inr ⟨q, Nat.min_eq_right y⟩
            · refine ⟨fun _ => ?_, fun e => absurd e (cu_m1 (by omega)).1⟩
              ((repeat' first | refine hP _ ?_ | fail); try dsimp only)
              refine ⟨fun z => ?_, fun z => ?_⟩
              · have hgt : ¬ adif (t kk) (t (n + j)) ≤ cap := fun y => absurd (nI_le y (by omega)) (Int32.not_le.mpr z)
                refine next u2 X _ _ hX (Nat.le_refl _) hu2 hf2 (fun _ y => ?_) (Or.inl rfl)
                rcases y with y | y
                · cases y
                · exact absurd y hgt
              · ((repeat' first | refine hP _ ?_ | fail); try dsimp only)
                refine ⟨vp_in_nI (by omega) (by omega), ?_⟩
                ((repeat' first | refine hP _ ?_ | fail); try dsimp only)
                refine m_X12_min ?_
                rw [nI_clamp (by omega), hX, nI_add, f_mnN2 (by omega) (by omega)]
                ((repeat' first | refine hP _ ?_ | fail); try dsimp only)
                refine ⟨vp_in_nI (by omega) (by omega), ?_⟩
                dsimp only
                rw [nI_clamp (by omega)]
                refine next _ (min X (g (s - 2 ^ j) + adif (t kk) (t (n + j)))) _ _ ?_ (Nat.min_le_left _ _) (fun i hi => ?_) (fun k hk => ?_) (fun _ _ => Nat.min_le_right _ _) ?_
                · rw [am_up_eq, if_pos ⟨rfl, rfl⟩]
                · rw [am_up_eq, if_neg (fun z => hi z.2)]
                  exact hu2 i hi
                · rw [am_up_ne _ _ _ hk]
                  exact hf2 k hk
                · rcases Nat.le_total X (g (s - 2 ^ j) + adif (t kk) (t (n + j))) with y | y
                  · exact Or.inl (Nat.min_eq_left y)
                  · exact Or.inr ⟨q, Nat.min_eq_right y⟩
          · rw [if_neg q]
            refine ⟨fun e => absurd rfl e, fun _ => ?_⟩
            ((iterate 1 refine hP _ ?_); try dsimp only)
            exact next u2 X l6 l7 hX (Nat.le_refl _) hu2 hf2 (fun y => absurd y q) (Or.inl rfl)
      ((repeat' first | refine hP _ ?_ | fail); try dsimp only)
      rw [cu_all2 n (by omega)]
      refine ⟨fun z => absurd z (nI_ge (by omega) (by omega)), fun _ => ?_⟩
      ((repeat' first | refine hP _ ?_ | fail); try dsimp only)
      refine m_bits (n := n) (by omega) (by omega) ?_
      rw [hk1]
      have e := inner n 0 (am_up u 101 s 1000000) 1000000 l6 l7 (by omega) (by rw [am_up_eq, if_pos ⟨rfl, rfl⟩]; rfl) (by omega) (fun i hi => by rw [am_up_eq, if_neg (fun z => hi z.2)]) (fun k hk => by rw [am_up_ne _ _ _ hk]; exact hf k hk) (fun i hi => absurd hi (by omega)) (Or.inl rfl)
      rw [← nI_pred kk] at e
      ((repeat' first | refine hP _ ?_ | fail); try dsimp only)
      refine ⟨vp_in_nI (by omega) (by omega), ?_⟩
      dsimp only
      rw [nI_clamp (by omega)]
      ((iterate 2 refine hP _ ?_); try dsimp only)
      exact e
  have e := outer (2 ^ n - 1) 1 (am_up v 101 0 0) (fun _ => 0) none none none none (by omega) (by omega) (fun i hi => by
    rw [show i = 0 by omega, am_up_eq, if_pos ⟨rfl, rfl⟩]
    exact ⟨rfl, by omega, gGood_0⟩) (fun k hk => by rw [am_up_ne _ _ _ hk])
  ((repeat' first | refine hP _ ?_ | fail); try dsimp only)
  refine ⟨am_vin rfl, ?_⟩
  ((iterate 2 refine hP _ ?_); try dsimp only)
  exact e
end M51
