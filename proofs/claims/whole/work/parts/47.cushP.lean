/-! ===== cushions: the reference, the pair ===== -/
def cuL (st : Option (Nat × Nat × Nat)) : Int32 × Int32 × Int32 := match st with
  | none => (-2, 0, 0)
  | some (x, y, z) => (nI x, nI y, nI z)
theorem cuG_le {st : Option (Nat × Nat × Nat)} {X : Nat} (hX : X < 2 ^ 20) (hs : ∀ x y z, st = some (x, y, z) → x < 2 ^ 20) : nI X ≤ (cuL st).1 ↔ ¬ cuG st X = true := by
  cases st with
  | none =>
    constructor
    · intro z
      have := Int32.le_trans (nI_pos' (n := X) (by omega)) z
      exact absurd this (by decide)
    · intro z
      exact absurd rfl z
  | some q =>
    obtain ⟨x, y, z⟩ := q
    have := hs x y z rfl
    show nI X ≤ nI x ↔ ¬ Nat.blt x X = true
    rw [nI_leI (by omega) (by omega)]
    constructor
    · intro h1 h2
      have := am_blt h2
      omega
    · intro h1
      rcases Nat.lt_or_ge x X with q | q
      · exact absurd (Nat.ble_eq_true_of_le q) h1
      · exact q
section M47
variable {K : am_K} {I : am_I} {d : Nat} {v : am_V} {w : am_X} {Q : Option Value → am_H → Prop}
set_option maxRecDepth 100000 in
set_option maxHeartbeats 4000000 in
theorem m_sumOf {n s : Nat} {t : Nat → Nat} (hn : n ≤ 8) (hs : s < 256) (ht : ∀ j, t j < 256) (hv : ∀ j, j < n → v 66 j &&& 255 = nI (t j)) (h : Q (some (.int (nI (cuH t s n)))) (am_sh, v, w)) : am_run K I am_m (d + 2) 219 [.ref 62, .int (nI s), .int (nI n)] (am_sh, v, w) 0 0 Q := by
  refine en_X12_sumOf rfl ?_
  intro P hP
  have key : ∀ (k i : Nat), i + k = n → P (cd_X12_sumOf.drop 4, [some (.ref 62), some (.int (nI s)), some (.int (nI n)), some (.int (nI (cuH t s i))), some (.int (nI i))], [], (am_sh, v, w), 0, 0) := by
    intro k
    induction k with
    | zero =>
      intro i hi
      ((repeat' first | refine hP _ ?_ | fail); try dsimp only)
      refine ⟨fun _ => ?_, fun z => absurd (nI_le (show n ≤ i by omega) (by omega)) z⟩
      ((repeat' first | refine hP _ ?_ | fail); try dsimp only)
      rw [show i = n by omega]
      exact h
    | succ k ih =>
      intro i hi
      have e := ih (i + 1) (by omega)
      ((repeat' first | refine hP _ ?_ | fail); try dsimp only)
      refine ⟨fun z => absurd z (nI_ge (by omega) (by omega)), fun _ => ?_⟩
      ((repeat' first | refine hP _ ?_ | fail); try dsimp only)
      refine m_X12_has ?_
      rw [f_hasN (by omega) (by omega)]
      ((repeat' first | refine hP _ ?_ | fail); try dsimp only)
      by_cases q : s / 2 ^ i % 2 = 1
      · rw [if_pos q]
        refine ⟨fun c => absurd c (by decide), fun _ => ?_⟩
        ((repeat' first | refine hP _ ?_ | fail); try dsimp only)
        refine m_X12_octet (by omega) ?_
        rw [hv i (by omega)]
        rw [← nI_1, cuH, q, Nat.one_mul, ← nI_add] at e
        ((iterate 4 refine hP _ ?_); try dsimp only)
        exact e
      · rw [if_neg q]
        refine ⟨fun _ => ?_, fun c => absurd rfl c⟩
        have q0 : s / 2 ^ i % 2 = 0 := by omega
        rw [← nI_1, cuH, q0, Nat.zero_mul, Nat.add_zero] at e
        ((iterate 2 refine hP _ ?_); try dsimp only)
        exact e
  ((iterate 4 refine hP _ ?_); try dsimp only)
  exact key n 0 (by omega)
set_option maxRecDepth 100000 in
set_option maxHeartbeats 4000000 in
theorem lp_cush2 {n f o : Nat} {b : Int32} {t : Nat → Nat} {P : am_C → Prop} (hn : 1 ≤ n ∧ n ≤ 8) (ht : ∀ j, t j < 256) (hf : f ≤ 99) (ho : o ≤ 99) (hv : ∀ j, j < n → v 66 j &&& 255 = nI (t j)) (hP : ∀ q, am_step K I (am_run K I am_m (d + 3)) cd_X12_cushions 0 0 Q P q → P q) (h : ∀ (l8 l9 l10 : Option Value), P (cd_X12_cushions.drop 98, [some (.ref 62), some (.int (nI n)), some (.int (nI f)), some (.int (nI o)), some (.int b), some (.int (cuL (cuR t n f o (2 ^ n) 0 none)).1), some (.int (cuL (cuR t n f o (2 ^ n) 0 none)).2.1), some (.int (cuL (cuR t n f o (2 ^ n) 0 none)).2.2), l8, l9, l10], [], (am_sh, v, w), 0, 0)) (l5 : Int32) : P (cd_X12_cushions.drop 45, [some (.ref 62), some (.int (nI n)), some (.int (nI f)), some (.int (nI o)), some (.int b), some (.int l5), none, none, none, none, none], [], (am_sh, v, w), 0, 0) := by
  have hp8 : 2 ^ n ≤ 2 ^ 8 := Nat.pow_le_pow_right (by decide) hn.2
  have hp1 : 0 < 2 ^ n := Nat.pow_pos (by decide)
  have hH : ∀ s, cuH t s 8 ≤ 2040 := fun s => cuH_le ht s 8
  have h8 : ∀ s, s < 2 ^ n → cuH t s n = cuH t s 8 := fun s hs => by
    have := cuH_n (t := t) hs (8 - n)
    rw [show n + (8 - n) = 8 by omega] at this
    exact this.symm
  have outer : ∀ (k i : Nat) (st : Option (Nat × Nat × Nat)) (l9 l10 : Option Value), (l9 = none ∨ ∃ z, l9 = some (.int z)) → i + k = 2 ^ n → (∀ x y z, st = some (x, y, z) → x < 2 ^ 20) → cuR t n f o k i st = cuR t n f o (2 ^ n) 0 none → P (cd_X12_cushions.drop 53, [some (.ref 62), some (.int (nI n)), some (.int (nI f)), some (.int (nI o)), some (.int b), some (.int (cuL st).1), some (.int (cuL st).2.1), some (.int (cuL st).2.2), some (.int (nI i)), l9, l10], [], (am_sh, v, w), 0, 0) := by
    intro k
    induction k with
    | zero =>
      intro i st l9 l10 hl9 hi hst hres
      ((repeat' first | refine hP _ ?_ | fail); try dsimp only)
      rw [cu_all2 n (by omega)]
      refine ⟨fun _ => ?_, fun z => absurd (nI_le (show 2 ^ n ≤ i by omega) (by omega)) z⟩
      rw [show st = cuR t n f o (2 ^ n) 0 none from hres]
      exact h _ _ _
    | succ k ih =>
      intro i st l9 l10 hl9 hi hst hres
      have hin := hH i
      have hst2 : ∀ x y z, cuN t n f o i st = some (x, y, z) → x < 2 ^ 20 := by
        intro x y z hq
        unfold cuN at hq
        by_cases g : cuG st (f + cuH t i 8) = true
        · rw [if_pos g] at hq
          cases hm : fM (cuP t f o i) (2 ^ n) 0 with
          | none => rw [hm] at hq; exact hst x y z hq
          | some s => rw [hm] at hq; cases hq; omega
        · rw [if_neg g] at hq
          exact hst x y z hq
      have inner : ∀ (k j : Nat) (st' : Option (Nat × Nat × Nat)), j + k = 2 ^ n → ((st' = st ∧ (cuG st (f + cuH t i 8) = true → fM (cuP t f o i) (2 ^ n) 0 = fM (cuP t f o i) k j)) ∨ (st' = cuN t n f o i st ∧ ¬ cuG st' (f + cuH t i 8) = true)) → P (cd_X12_cushions.drop 67, [some (.ref 62), some (.int (nI n)), some (.int (nI f)), some (.int (nI o)), some (.int b), some (.int (cuL st').1), some (.int (cuL st').2.1), some (.int (cuL st').2.2), some (.int (nI i)), some (.int (nI (f + cuH t i 8))), some (.int (nI j))], [], (am_sh, v, w), 0, 0) := by
        intro k2
        induction k2 with
        | zero =>
          intro j st' hj hs
          have es : st' = cuN t n f o i st := by
            rcases hs with ⟨rfl, q⟩ | ⟨q, _⟩
            · unfold cuN
              by_cases g : cuG st' (f + cuH t i 8) = true
              · rw [if_pos g, q g]
                rfl
              · rw [if_neg g]
            · exact q
          have e := ih (i + 1) (cuN t n f o i st) (some (.int (nI (f + cuH t i 8)))) (some (.int (nI j))) (Or.inr ⟨_, rfl⟩) (by omega) hst2 hres
          rw [← nI_1, ← es] at e
          ((repeat' first | refine hP _ ?_ | fail); try dsimp only)
          rw [cu_all2 n (by omega)]
          refine ⟨fun _ => ?_, fun z => absurd (nI_le (show 2 ^ n ≤ j by omega) (by omega)) z⟩
          ((iterate 2 refine hP _ ?_); try dsimp only)
          exact e
        | succ k2 ih2 =>
          intro j st' hj hs
          have hjn := hH j
          have hst3 : ∀ x y z, st' = some (x, y, z) → x < 2 ^ 20 := by
            rcases hs with ⟨rfl, _⟩ | ⟨rfl, _⟩
            · exact hst
            · exact hst2
          have skip : (cuG st (f + cuH t i 8) = true → st' = st → cuP t f o i j = false) → P (cd_X12_cushions.drop 94, [some (.ref 62), some (.int (nI n)), some (.int (nI f)), some (.int (nI o)), some (.int b), some (.int (cuL st').1), some (.int (cuL st').2.1), some (.int (cuL st').2.2), some (.int (nI i)), some (.int (nI (f + cuH t i 8))), some (.int (nI j))], [], (am_sh, v, w), 0, 0) := by
            intro hp
            have e := ih2 (j + 1) st' (by omega) (by
              rcases hs with ⟨q1, q2⟩ | q
              · refine Or.inl ⟨q1, fun g => ?_⟩
                rw [q2 g, fM, if_neg (by rw [hp g q1]; decide)]
              · exact Or.inr q)
            rw [← nI_1] at e
            ((iterate 2 refine hP _ ?_); try dsimp only)
            exact e
          ((repeat' first | refine hP _ ?_ | fail); try dsimp only)
          rw [cu_all2 n (by omega)]
          refine ⟨fun z => absurd z (nI_ge (by omega) (by omega)), fun _ => ?_⟩
          ((repeat' first | refine hP _ ?_ | fail); try dsimp only)
          rw [andNN (by omega) (by omega)]
          have hand : i &&& j ≤ i := Nat.and_le_left
          refine ⟨fun z => ?_, fun z => ?_⟩
          · refine skip (fun _ _ => ?_)
            unfold cuP
            rw [am_bne (fun q => z (by rw [q]; rfl))]
            rfl
          · have hz : i &&& j = 0 := (nI_eq (b := 0) (by omega) (by omega)).mp z
            ((repeat' first | refine hP _ ?_ | fail); try dsimp only)
            refine ⟨fun z2 => ?_, fun z2 => ?_⟩
            · have hg := (cuG_le (by omega) hst3).mp z2
              exact skip (fun g e => absurd (e ▸ g) hg)
            · have hg : cuG st' (f + cuH t i 8) = true := by
                by_cases q : cuG st' (f + cuH t i 8) = true
                · exact q
                · exact absurd ((cuG_le (by omega) hst3).mpr q) z2
              obtain ⟨e1, e2⟩ : st' = st ∧ (cuG st (f + cuH t i 8) = true → fM (cuP t f o i) (2 ^ n) 0 = fM (cuP t f o i) (k2 + 1) j) := by
                rcases hs with q | q
                · exact q
                · exact absurd hg q.2
              ((repeat' first | refine hP _ ?_ | fail); try dsimp only)
              refine m_sumOf hn.2 (by omega) ht hv ?_
              rw [h8 j (by omega)]
              ((repeat' first | refine hP _ ?_ | fail); try dsimp only)
              rw [nI_add]
              refine ⟨fun z3 => ?_, fun z3 => ?_⟩
              · have hm : o + cuH t j 8 = f + cuH t i 8 := (nI_eq (by omega) (by omega)).mp z3
                have hp : cuP t f o i j = true := by
                  unfold cuP
                  rw [hz, hm, am_beq, am_beq]
                  rfl
                have e3 : cuN t n f o i st = some (f + cuH t i 8, i, j) := by
                  unfold cuN
                  rw [← e1, if_pos hg, e2 (e1 ▸ hg), fM, if_pos hp]
                have e := ih2 (j + 1) (some (f + cuH t i 8, i, j)) (by omega) (Or.inr ⟨e3.symm, fun c => by
                  have := am_blt (show Nat.blt (f + cuH t i 8) (f + cuH t i 8) = true from c)
                  omega⟩)
                rw [← nI_1] at e
                ((iterate 8 refine hP _ ?_); try dsimp only)
                exact e
              · have hm : ¬ (o + cuH t j 8 = f + cuH t i 8) := fun q => z3 (by rw [q])
                ((iterate 1 refine hP _ ?_); try dsimp only)
                refine skip (fun _ _ => ?_)
                unfold cuP
                rw [am_bne hm]
                cases Nat.beq (i &&& j) 0 <;> rfl
      ((repeat' first | refine hP _ ?_ | fail); try dsimp only)
      rw [cu_all2 n (by omega)]
      refine ⟨fun z => absurd z (nI_ge (by omega) (by omega)), fun _ => ?_⟩
      ((repeat' first | refine hP _ ?_ | fail); try dsimp only)
      refine m_sumOf hn.2 (by omega) ht hv ?_
      rw [h8 i (by omega)]
      have e := inner (2 ^ n) 0 st (by omega) (Or.inl ⟨rfl, fun _ => rfl⟩)
      rw [← nI_add] at e
      rcases hl9 with rfl | ⟨z, rfl⟩
      · ((iterate 4 refine hP _ ?_); try dsimp only)
        exact e
      · ((iterate 4 refine hP _ ?_); try dsimp only)
        exact e
  ((iterate 8 refine hP _ ?_); try dsimp only)
  exact outer (2 ^ n) 0 none none none (Or.inl rfl) (by omega) (fun x y z hq => by cases hq) rfl
end M47
