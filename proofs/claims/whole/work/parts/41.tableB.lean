/-! ===== table: who sits badly ===== -/
theorem shr_k : ∀ i, i < 32 → ((nI i &&& 31).toBitVec.smod 32).toNat = i := by decide
theorem shrN {x i : Nat} (hx : x < 2 ^ 31) (hi : i < 32) : nI x >>> (nI i &&& 31) = nI (x / 2 ^ i) := pk_shrN hx _ i (shr_k i hi)
theorem and1N {x : Nat} (hx : x < 2 ^ 32) : nI x &&& 1 = nI (x % 2) := pk_andN hx 1 rfl
theorem or1N {a b : Nat} (ha : a < 2 ^ 31) (hb : b < 2 ^ 31) : ((nI a ||| nI b) &&& 1 = 0) ↔ ¬ (a % 2 = 1 ∨ b % 2 = 1) := by
  have e : (nI a ||| nI b) &&& 1 = (nI a &&& 1) ||| (nI b &&& 1) := by
    apply Int32.toBitVec_inj.mp
    simp only [Int32.toBitVec_and, Int32.toBitVec_or]
    apply BitVec.eq_of_getLsbD_eq
    intro i hi
    simp only [BitVec.getLsbD_and, BitVec.getLsbD_or]
    cases (nI a).toBitVec.getLsbD i <;> cases (nI b).toBitVec.getLsbD i <;> simp
  rw [e, and1N (by omega), and1N (by omega)]
  rcases Nat.mod_two_eq_zero_or_one a with h1 | h1 <;> rcases Nat.mod_two_eq_zero_or_one b with h2 | h2 <;> rw [h1, h2] <;> decide
theorem f_hasN {x i : Nat} (hx : x < 2 ^ 31) (hi : i < 32) : f_has (nI x) (nI i) = if x / 2 ^ i % 2 = 1 then 1 else 0 := by
  have h1 : x / 2 ^ i < 2 ^ 32 := Nat.lt_of_le_of_lt (Nat.div_le_self _ _) (by omega)
  unfold f_has
  rw [shrN hx hi, and1N h1]
  rcases Nat.mod_two_eq_zero_or_one (x / 2 ^ i) with h | h <;> rw [h] <;> decide
def tbB (t f : Nat → Nat) (n : Nat) : Nat → Nat
  | 0 => 0
  | i + 1 => tbB t f n i + (if t (f i) / 2 ^ i % 2 = 1 ∨ t (f i) / 2 ^ ((i + 1) % n) % 2 = 1 then 1 else 0)
theorem tbB_le (t f : Nat → Nat) (n : Nat) : ∀ i, tbB t f n i ≤ i
  | 0 => Nat.le_refl _
  | i + 1 => by
    have := tbB_le t f n i
    unfold tbB
    split <;> omega
section M41
variable {K : am_K} {I : am_I} {d : Nat} {v : am_V} {w : am_X} {Q : Option Value → am_H → Prop}
set_option maxRecDepth 100000 in
set_option maxHeartbeats 4000000 in
theorem m_badC {n tn : Nat} {t f : Nat → Nat} (hn : 2 ≤ n ∧ n ≤ 6) (ht : ∀ j, t j < 256) (htn : v 1 1 = nI tn) (htn2 : tn ≤ 260) (hnt : n ≤ tn) (hv : ∀ j, j < tn → v 2 j = nI (t j)) (hs : seR v 59 n f) (hf : ∀ i, i < n → f i < n) (h : Q (some (.int (nI (tbB t f n n)))) (am_sh, v, w)) : am_run K I am_m (d + 2) 10 [.ref 43, .int (nI n)] (am_sh, v, w) 0 0 Q := by
  refine en_X0_seatedBadly rfl ?_
  intro P hP
  have key : ∀ (k i : Nat) (x4 : Option Value) (x5 : Option Value), (x4 = none ∨ ∃ z, x4 = some (.int z)) → i + k = n → P (cd_X0_seatedBadly.drop 4, [some (.ref 43), some (.int (nI n)), some (.int (nI (tbB t f n i))), some (.int (nI i)), x4, x5], [], (am_sh, v, w), 0, 0) := by
    intro k
    induction k with
    | zero =>
      intro i x4 x5 hx4 hi
      ((repeat' first | refine hP _ ?_ | fail); try dsimp only)
      refine ⟨fun _ => ?_, fun z => absurd (nI_le (show n ≤ i by omega) (by omega)) z⟩
      ((repeat' first | refine hP _ ?_ | fail); try dsimp only)
      rw [show i = n by omega]
      exact h
    | succ k ih =>
      intro i x4 x5 hx4 hi
      have hlt : t (f i) < 256 := ht _
      have hfi := hf i (by omega)
      have nx : ∀ y : Nat, y = (i + 1) % n → y < 32 → P (cd_X0_seatedBadly.drop 20, [some (.ref 43), some (.int (nI n)), some (.int (nI (tbB t f n i))), some (.int (nI i)), x4, x5], [.int (nI y)], (am_sh, v, w), 0, 0) := by
        intro y hy hy2
        have go : ∀ z : Nat, z = tbB t f n (i + 1) → P (cd_X0_seatedBadly.drop 40, [some (.ref 43), some (.int (nI n)), some (.int (nI z)), some (.int (nI i)), some (.int (nI y)), some (.int (nI (t (f i))))], [], (am_sh, v, w), 0, 0) := by
          intro z hz
          have e := ih (i + 1) (some (.int (nI y))) (some (.int (nI (t (f i))))) (Or.inr ⟨_, rfl⟩) (by omega)
          rw [← nI_1, ← hz] at e
          ((iterate 2 refine hP _ ?_); try dsimp only)
          exact e
        rcases hx4 with rfl | ⟨z4, rfl⟩
        all_goals
          ((repeat' first | refine hP _ ?_ | fail); try dsimp only)
          refine ⟨vp_in_nI (by omega) (by omega), ?_⟩
          ((repeat' first | refine hP _ ?_ | fail); try dsimp only)
          rw [nI_clamp (by omega), (hs i (by omega)).1]
          refine m_byteAt (by omega) htn htn2 ?_
          rw [hv _ (by omega)]
          ((repeat' first | refine hP _ ?_ | fail); try dsimp only)
          rw [shrN (by omega) (by omega), shrN (by omega) hy2]
          have d1 : t (f i) / 2 ^ i < 2 ^ 31 := Nat.lt_of_le_of_lt (Nat.div_le_self _ _) (by omega)
          have d2 : t (f i) / 2 ^ y < 2 ^ 31 := Nat.lt_of_le_of_lt (Nat.div_le_self _ _) (by omega)
          refine ⟨fun c => ?_, fun c => ?_⟩
          · have := (or1N d1 d2).mp c
            refine go _ ?_
            rw [tbB, ← hy, if_neg this, Nat.add_zero]
          · have hb : t (f i) / 2 ^ i % 2 = 1 ∨ t (f i) / 2 ^ y % 2 = 1 := by
              by_cases q : t (f i) / 2 ^ i % 2 = 1 ∨ t (f i) / 2 ^ y % 2 = 1
              · exact q
              · exact absurd ((or1N d1 d2).mpr q) c
            have e := go (tbB t f n i + 1) (by rw [tbB, ← hy, if_pos hb])
            rw [← nI_1] at e
            ((iterate 1 refine hP _ ?_); try dsimp only)
            exact e
      ((repeat' first | refine hP _ ?_ | fail); try dsimp only)
      refine ⟨fun z => absurd z (nI_ge (by omega) (by omega)), fun _ => ?_⟩
      ((repeat' first | refine hP _ ?_ | fail); try dsimp only)
      refine ⟨fun z => absurd ((nI_leI (a := 6) (by omega) (by omega)).mp z) (by omega), fun _ => ?_⟩
      ((repeat' first | refine hP _ ?_ | fail); try dsimp only)
      rw [nI_1]
      refine ⟨fun z => ?_, fun z => ?_⟩
      · have hz := (nI_leI (by omega) (by omega)).mp z
        ((iterate 1 refine hP _ ?_); try dsimp only)
        exact nx 0 (by rw [show i + 1 = n by omega, Nat.mod_self]) (by omega)
      · have hz : i + 1 < n := by
          rcases Nat.lt_or_ge (i + 1) n with y | y
          · exact y
          · exact absurd (nI_le y (by omega)) z
        have e := nx (i + 1) (Nat.mod_eq_of_lt hz).symm (by omega)
        rw [← nI_1] at e
        ((iterate 4 refine hP _ ?_); try dsimp only)
        exact e
  ((iterate 4 refine hP _ ?_); try dsimp only)
  exact key n 0 none none (Or.inl rfl) (by omega)
set_option maxRecDepth 100000 in
set_option maxHeartbeats 4000000 in
theorem m_badR {n : Nat} {t f : Nat → Nat} (hn : 2 ≤ n ∧ n ≤ 6) (ht : ∀ j, t j < 256) (hv : ∀ j, j < n → v 66 j &&& 255 = nI (t j)) (hs : seR v 102 n f) (hf : ∀ i, i < n → f i < n) (h : Q (some (.int (nI (tbB t f n n)))) (am_sh, v, w)) : am_run K I am_m (d + 2) 221 [.ref 62, .int (nI n)] (am_sh, v, w) 0 0 Q := by
  refine en_X12_wrongsNow rfl ?_
  intro P hP
  have key : ∀ (k i : Nat) (x4 : Option Value), i + k = n → P (cd_X12_wrongsNow.drop 4, [some (.ref 62), some (.int (nI n)), some (.int (nI (tbB t f n i))), some (.int (nI i)), x4], [], (am_sh, v, w), 0, 0) := by
    intro k
    induction k with
    | zero =>
      intro i x4 hi
      ((repeat' first | refine hP _ ?_ | fail); try dsimp only)
      refine ⟨fun _ => ?_, fun z => absurd (nI_le (show n ≤ i by omega) (by omega)) z⟩
      ((repeat' first | refine hP _ ?_ | fail); try dsimp only)
      rw [show i = n by omega]
      exact h
    | succ k ih =>
      intro i x4 hi
      have hlt : t (f i) < 256 := ht _
      have hfi := hf i (by omega)
      have go : ∀ z : Nat, z = tbB t f n (i + 1) → P (cd_X12_wrongsNow.drop 30, [some (.ref 62), some (.int (nI n)), some (.int (nI z)), some (.int (nI i)), some (.int (nI (t (f i))))], [], (am_sh, v, w), 0, 0) := by
        intro z hz
        have e := ih (i + 1) (some (.int (nI (t (f i))))) (by omega)
        rw [← nI_1, ← hz] at e
        ((iterate 2 refine hP _ ?_); try dsimp only)
        exact e
      have bad : (t (f i) / 2 ^ i % 2 = 1 ∨ t (f i) / 2 ^ ((i + 1) % n) % 2 = 1) → P (cd_X12_wrongsNow.drop 26, [some (.ref 62), some (.int (nI n)), some (.int (nI (tbB t f n i))), some (.int (nI i)), some (.int (nI (t (f i))))], [], (am_sh, v, w), 0, 0) := by
        intro hb
        have e := go (tbB t f n i + 1) (by rw [tbB, if_pos hb])
        rw [← nI_1] at e
        ((iterate 4 refine hP _ ?_); try dsimp only)
        exact e
      have hm : (i + 1) % n < 32 := Nat.lt_of_lt_of_le (Nat.mod_lt _ (by omega)) (by omega)
      ((repeat' first | refine hP _ ?_ | fail); try dsimp only)
      refine ⟨fun z => absurd z (nI_ge (by omega) (by omega)), fun _ => ?_⟩
      ((repeat' first | refine hP _ ?_ | fail); try dsimp only)
      refine ⟨vp_in_nI (by omega) (by omega), ?_⟩
      ((repeat' first | refine hP _ ?_ | fail); try dsimp only)
      rw [nI_clamp (by omega), (hs i (by omega)).1]
      refine m_X12_octet (by omega) ?_
      rw [hv _ hfi]
      ((repeat' first | refine hP _ ?_ | fail); try dsimp only)
      refine m_X12_has ?_
      rw [f_hasN (by omega) (by omega)]
      ((repeat' first | refine hP _ ?_ | fail); try dsimp only)
      by_cases b1 : t (f i) / 2 ^ i % 2 = 1
      · rw [if_pos b1]
        refine ⟨fun _ => bad (Or.inl b1), fun c => absurd c (by decide)⟩
      · rw [if_neg b1]
        refine ⟨fun c => absurd rfl c, fun _ => ?_⟩
        ((repeat' first | refine hP _ ?_ | fail); try dsimp only)
        rw [nI_1]
        refine ⟨fun c => absurd ((nI_eq (b := 0) (by omega) (by omega)).mp c) (by omega), ?_⟩
        ((repeat' first | refine hP _ ?_ | fail); try dsimp only)
        rw [show am_rem (nI (i + 1)) (nI n) = nI ((i + 1) % n) from pk_rem (by omega) (by omega) (by omega)]
        refine m_X12_has ?_
        rw [f_hasN (by omega) hm]
        ((repeat' first | refine hP _ ?_ | fail); try dsimp only)
        by_cases b2 : t (f i) / 2 ^ ((i + 1) % n) % 2 = 1
        · rw [if_pos b2]
          refine ⟨fun c => absurd c (by decide), fun _ => bad (Or.inr b2)⟩
        · rw [if_neg b2]
          refine ⟨fun _ => ?_, fun c => absurd rfl c⟩
          refine go _ ?_
          rw [tbB, if_neg (fun q => q.elim b1 b2), Nat.add_zero]
  ((iterate 4 refine hP _ ?_); try dsimp only)
  exact key n 0 none (by omega)
end M41
