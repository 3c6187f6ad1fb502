/-! ===== pair: tent ===== -/
/-- bytes as numbers -/
def tpN (v : am_V) (j : Nat) : Nat := (v 66 j).toBitVec.toNat % 256
theorem tpN_lt (v : am_V) (j : Nat) : tpN v j < 256 := Nat.mod_lt _ (by decide)
theorem tpN_eq (v : am_V) (j : Nat) : v 66 j &&& 255 = nI (tpN v j) := pk_and (v 66 j) 8 rfl
def tsum (t : Nat → Nat) : Nat → Nat
  | 0 => 0
  | i + 1 => tsum t i + t i
theorem tsum_le {t : Nat → Nat} (ht : ∀ j, t j < 256) : ∀ n, tsum t n ≤ 255 * n
  | 0 => Nat.le_refl _
  | n + 1 => by
    have := tsum_le ht n
    have := ht n
    unfold tsum
    omega
theorem tsum_mono {t : Nat → Nat} {a : Nat} : ∀ k, tsum t a ≤ tsum t (a + k)
  | 0 => Nat.le_refl _
  | k + 1 => Nat.le_trans (tsum_mono k) (by show _ ≤ tsum t (a + k) + t (a + k); omega)
def adif (a b : Nat) : Nat := if b ≤ a then a - b else b - a
theorem ab1 {a b : Nat} (ha : a < 2 ^ 30) (hb : b < 2 ^ 30) : (if 0 ≤ nI a - nI b then nI a - nI b else 0 - (nI a - nI b)) = nI (adif a b) := by
  have hs : (nI a - nI b).toInt = (a : Int) - b := by
    rw [Int32.toInt_sub, nI_toInt (by omega), nI_toInt (by omega), Int.bmod_eq_of_le (by omega) (by omega)]
  unfold adif
  by_cases h : b ≤ a
  · rw [if_pos h, if_pos (Int32.le_iff_toInt_le.mpr (by rw [hs, show (0 : Int32).toInt = 0 from rfl]; omega)), pk_sub h]
  · rw [if_neg h, if_neg (fun q => by
      have := Int32.le_iff_toInt_le.mp q
      rw [hs, show (0 : Int32).toInt = 0 from rfl] at this
      omega)]
    apply Int32.toInt_inj.mp
    rw [Int32.toInt_sub, hs, nI_toInt (by omega), show (0 : Int32).toInt = 0 from rfl, Int.bmod_eq_of_le (by omega) (by omega)]
    omega
theorem ab2 {a b : Nat} (ha : a < 2 ^ 30) (hb : b < 2 ^ 30) : (if nI a - nI b < 0 then -(nI a - nI b) else nI a - nI b) = nI (adif a b) := by
  rw [← ab1 ha hb]
  by_cases h : nI a - nI b < 0
  · rw [if_pos h, if_neg (Int32.not_le.mpr h)]
    rw [Int32.zero_sub]
  · rw [if_neg h, if_pos (Int32.not_lt.mp h)]
/-- the least of a row of differences, and where first -/
def tnG (D : Nat → Nat) : Nat → Nat → Nat → Nat → Nat × Nat
  | 0, _, b, p => (b, p)
  | k + 1, i, b, p => if D i < b then tnG D k (i + 1) (D i) i else tnG D k (i + 1) b p
theorem tnG_s (D : Nat → Nat) (k i b p : Nat) : tnG D (k + 1) i b p = if D i < b then tnG D k (i + 1) (D i) i else tnG D k (i + 1) b p := rfl
theorem up2 (v : am_V) (k a b : Nat) (x y x2 y2 : Int32) (h : a ≠ b) : am_up (am_up (am_up (am_up v k a x) k b y) k a x2) k b y2 = am_up (am_up v k a x2) k b y2 := by
  funext c e
  simp only [am_up_eq]
  by_cases h1 : c = k
  · subst h1
    by_cases h2 : e = b
    · simp [h2]
    · by_cases h3 : e = a
      · simp [h3, h]
      · simp [h2, h3]
  · simp [h1]
theorem up1 (v : am_V) (k a b : Nat) (x : Int32) (h : a ≠ b) : am_up v k a x = am_up (am_up v k a x) k b (v k b) := by
  funext c e
  simp only [am_up_eq]
  by_cases h1 : c = k
  · subst h1
    by_cases h2 : e = b
    · subst h2
      have : ¬ e = a := fun q => h q.symm
      simp [this]
    · simp [h2]
  · simp [h1]
section M31
variable {K : am_K} {I : am_I} {d : Nat} {v : am_V} {w : am_X} {Q : Option Value → am_H → Prop}
set_option maxRecDepth 100000 in
set_option maxHeartbeats 4000000 in
theorem m_X0_cut {N n : Nat} {t : Nat → Nat} (ht : ∀ j, t j < 256) (hv : ∀ j, j < n → v 2 j = nI (t j)) (hn : v 1 1 = nI n) (hn2 : n ≤ 260) (hN : N ≤ n) (hN2 : 2 ≤ N ∧ N ≤ 20) (h : ∀ b p : Nat, tnG (fun i => adif (tsum t i) (tsum t N - tsum t i)) (N - 1) 1 2147483647 0 = (b, p) → Q none (am_sh, am_up (am_up v 43 8 (nI b)) 43 9 (nI p), w)) : am_run K I am_m (d + 2) 13 [.ref 43, .int (nI N)] (am_sh, v, w) 0 0 Q := by
  refine en_X0_cut rfl ?_
  intro P hP
  have hS : ∀ i, tsum t i ≤ 255 * i := tsum_le ht
  -- the second loop
  have key2 : ∀ (k i b p : Nat) (z y : Int32), i + k = N → 1 ≤ i → (2 ≤ i → z = nI b ∧ y = nI p ∧ b ≤ 100000) → (i = 1 → z = -1 ∧ b = 2147483647) → tnG (fun i => adif (tsum t i) (tsum t N - tsum t i)) k i b p = tnG (fun i => adif (tsum t i) (tsum t N - tsum t i)) (N - 1) 1 2147483647 0 → P (cd_X0_cut.drop 23, [some (.ref 43), some (.int (nI N)), some (.int (nI (tsum t N - tsum t (i - 1)))), some (.int (nI (tsum t (i - 1)))), some (.int (nI i))], [], (am_sh, am_up (am_up v 43 8 z) 43 9 y, w), 0, 0) := by
    intro k
    induction k with
    | zero =>
      intro i b p z y hi h1 hy hb1 hg
      ((repeat' first | refine hP _ ?_ | fail); try dsimp only)
      refine ⟨fun _ => ?_, fun c => absurd (nI_le (show N ≤ i by omega) (by omega)) c⟩
      ((repeat' first | refine hP _ ?_ | fail); try dsimp only)
      obtain ⟨hz, hyp, _⟩ := hy (by omega)
      rw [hz, hyp]
      exact h b p hg.symm
    | succ k ih =>
      intro i b p z y hi h1 hy hb1 hg
      have b1 := hS i
      have b2 := hS N
      have b3 : tsum t i ≤ tsum t N := by
        have := tsum_mono (t := t) (a := i) (N - i)
        rw [show i + (N - i) = N by omega] at this
        exact this
      have b4 : tsum t i = tsum t (i - 1) + t (i - 1) := by
        have : tsum t (i - 1 + 1) = tsum t (i - 1) + t (i - 1) := rfl
        rw [show i - 1 + 1 = i by omega] at this
        exact this
      have b5 : adif (tsum t i) (tsum t N - tsum t i) ≤ 100000 := by unfold adif; split <;> omega
      have e1 : nI i - 1 = nI (i - 1) := pk_sub (a := i) (b := 1) h1
      have e2 : nI (tsum t (i - 1)) + nI (t (i - 1)) = nI (tsum t i) := by rw [nI_add, b4]
      have e3 : nI (tsum t N - tsum t (i - 1)) - nI (t (i - 1)) = nI (tsum t N - tsum t i) := by
        rw [pk_sub (by omega)]
        congr 1
        omega
      have r2 : ∀ j, j < n → am_up (am_up v 43 8 z) 43 9 y 2 j = nI (t j) := fun j hj => by
        simp [am_up_eq]
        exact hv j hj
      have r1 : am_up (am_up v 43 8 z) 43 9 y 1 1 = nI n := by
        simp [am_up_eq]
        exact hn
      have r8 : am_up (am_up v 43 8 z) 43 9 y 43 8 = z := by simp [am_up_eq]
      have e9 : ∀ q : Nat, nI (q + 1) = nI q + 1 := fun q => (nI_1 q).symm
      rw [tnG_s] at hg
      -- the better one is taken
      have take : adif (tsum t i) (tsum t N - tsum t i) < b → P (cd_X0_cut.drop 55, [some (.ref 43), some (.int (nI N)), some (.int (nI (tsum t N - tsum t i))), some (.int (nI (tsum t i))), some (.int (nI i))], [], (am_sh, am_up (am_up v 43 8 z) 43 9 y, w), 0, 0) := by
        intro hlt
        rw [if_pos hlt] at hg
        have e := ih (i + 1) (adif (tsum t i) (tsum t N - tsum t i)) i (nI (adif (tsum t i) (tsum t N - tsum t i))) (nI i) (by omega) (by omega) (fun _ => ⟨rfl, rfl, b5⟩) (fun q => absurd q (by omega)) hg
        rw [e9, show i + 1 - 1 = i by omega, ← up2 v 43 8 9 z y _ _ (by decide), ← ab1 (by omega) (by omega)] at e
        ((iterate 11 refine hP _ ?_); try dsimp only)
        exact e
      ((repeat' first | refine hP _ ?_ | fail); try dsimp only)
      refine ⟨fun c => absurd c (nI_ge (by omega) (by omega)), fun _ => ?_⟩
      ((repeat' first | refine hP _ ?_ | fail); try dsimp only)
      rw [e1]
      refine m_byteAt (by omega) r1 hn2 ?_
      rw [r2 _ (by omega)]
      ((repeat' first | refine hP _ ?_ | fail); try dsimp only)
      rw [e1, e2]
      refine m_byteAt (by omega) r1 hn2 ?_
      rw [r2 _ (by omega)]
      ((repeat' first | refine hP _ ?_ | fail); try dsimp only)
      rw [e3, r8]
      refine ⟨fun c => ?_, fun c => ?_⟩
      · have hi1 : i = 1 := by
          rcases Nat.lt_or_ge i 2 with q | q
          · omega
          · exfalso
            obtain ⟨hz, _, hb⟩ := hy q
            rw [hz] at c
            have k1 : (nI b).toInt = -1 := by rw [c]; rfl
            rw [nI_toInt (by omega)] at k1
            omega
        exact take (by rw [(hb1 hi1).2]; omega)
      · have hi2 : 2 ≤ i := by
          rcases Nat.lt_or_ge i 2 with q | q
          · exact absurd (hb1 (by omega)).1 c
          · exact q
        obtain ⟨hz, hyp, hb⟩ := hy hi2
        ((repeat' first | refine hP _ ?_ | fail); try dsimp only)
        rw [ab1 (by omega) (by omega), r8]
        refine ⟨fun c => ?_, fun c => ?_⟩
        · rw [if_neg (by
            intro q
            have := nI_lt q (by omega)
            rw [hz] at c
            exact absurd c (Int32.not_le.mpr this))] at hg
          have e := ih (i + 1) b p z y (by omega) (by omega) (fun _ => ⟨hz, hyp, hb⟩) (fun q => absurd q (by omega)) hg
          rw [e9, show i + 1 - 1 = i by omega] at e
          ((iterate 2 refine hP _ ?_); try dsimp only)
          exact e
        · refine take ?_
          rcases Nat.lt_or_ge (adif (tsum t i) (tsum t N - tsum t i)) b with q | q
          · exact q
          · rw [hz] at c
            exact absurd (nI_le q (by omega)) c
  -- the first loop
  have key1 : ∀ (k i : Nat) (l4 : Option Value), i + k = N → P (cd_X0_cut.drop 4, [some (.ref 43), some (.int (nI N)), some (.int (nI (tsum t i))), some (.int (nI i)), l4], [], (am_sh, v, w), 0, 0) := by
    intro k
    induction k with
    | zero =>
      intro i l4 hi
      have hi : i = N := by omega
      subst hi
      ((repeat' first | refine hP _ ?_ | fail); try dsimp only)
      refine ⟨fun _ => ?_, fun c => absurd (nI_le (Nat.le_refl i) (by omega)) c⟩
      have e := key2 (i - 1) 1 2147483647 0 (-1) (v 43 9) (by omega) (by omega) (fun q => absurd q (by omega)) (fun _ => ⟨rfl, rfl⟩) rfl
      rw [← up1 v 43 8 9 _ (by decide)] at e
      ((iterate 7 refine hP _ ?_); try dsimp only)
      exact e
    | succ k ih =>
      intro i l4 hi
      ((repeat' first | refine hP _ ?_ | fail); try dsimp only)
      refine ⟨fun c => absurd c (nI_ge (by omega) (by omega)), fun _ => ?_⟩
      ((repeat' first | refine hP _ ?_ | fail); try dsimp only)
      refine m_byteAt (by omega) hn hn2 ?_
      rw [hv _ (by omega)]
      have e := ih (i + 1) l4 (by omega)
      rw [tsum, ← nI_add, ← nI_1] at e
      ((iterate 4 refine hP _ ?_); try dsimp only)
      exact e
  ((iterate 4 refine hP _ ?_); try dsimp only)
  exact key1 N 0 none (by omega)
end M31
theorem tnG_st (D : Nat → Nat) (k i a b p q : Nat) (ha : D i < a) (hb : D i < b) : tnG D (k + 1) i a p = tnG D (k + 1) i b q := by
  rw [tnG_s, tnG_s, if_pos ha, if_pos hb]
theorem tnG_congr {D E : Nat → Nat} : ∀ (k i b p : Nat), (∀ j, i ≤ j → j < i + k → D j = E j) → tnG D k i b p = tnG E k i b p
  | 0, _, _, _, _ => rfl
  | k + 1, i, b, p, h => by
    rw [tnG_s, tnG_s, h i (by omega) (by omega), tnG_congr k (i + 1) (E i) i (fun j h1 h2 => h j (by omega) (by omega)), tnG_congr k (i + 1) b p (fun j h1 h2 => h j (by omega) (by omega))]
section M31b
variable {K : am_K} {I : am_I} {d : Nat} {v : am_V} {w : am_X} {Q : Option Value → am_H → Prop} {P : am_C → Prop}
set_option maxRecDepth 100000 in
set_option maxHeartbeats 4000000 in
theorem lp_tent2 {N : Nat} {what : Int32} {t : Nat → Nat} (ht : ∀ j, t j < 256) (hv : ∀ j, v 66 j &&& 255 = nI (t j)) (hN : 2 ≤ N ∧ N ≤ 20) (hP : ∀ c, am_step K I (am_run K I am_m (d + 1)) cd_X12_tent 0 0 Q P c → P c) (h : ∀ b p : Nat, tnG (fun i => adif (tsum t N) (2 * tsum t i)) (N - 1) 1 1000000 0 = (b, p) → Q (some (.int (if what = 0 then nI p else nI b))) (am_sh, v, w)) : P (cd_X12_tent.drop 23, [some (.ref 62), some (.int (nI N)), some (.int what), some (.int 0), some (.int 0), none, none, none], [], (am_sh, v, w), 0, 0) := by
  have hS : ∀ i, tsum t i ≤ 255 * i := tsum_le ht
  have key2 : ∀ (k i b p : Nat), i + k = N → 1 ≤ i → b ≤ 1000000 → tnG (fun i => adif (tsum t N) (2 * tsum t i)) k i b p = tnG (fun i => adif (tsum t N) (2 * tsum t i)) (N - 1) 1 1000000 0 → P (cd_X12_tent.drop 42, [some (.ref 62), some (.int (nI N)), some (.int what), some (.int (nI (tsum t N))), some (.int (nI p)), some (.int (nI b)), some (.int (nI (tsum t (i - 1)))), some (.int (nI i))], [], (am_sh, v, w), 0, 0) := by
    intro k
    induction k with
    | zero =>
      intro i b p hi h1 hb hg
      ((repeat' first | refine hP _ ?_ | fail); try dsimp only)
      refine ⟨fun _ => ?_, fun c => absurd (nI_le (show N ≤ i by omega) (by omega)) c⟩
      have hh := h b p hg.symm
      ((repeat' first | refine hP _ ?_ | fail); try dsimp only)
      refine ⟨fun c => ?_, fun c => ?_⟩
      · ((repeat' first | refine hP _ ?_ | fail); try dsimp only)
        rw [if_neg c] at hh
        exact hh
      · ((repeat' first | refine hP _ ?_ | fail); try dsimp only)
        rw [if_pos c] at hh
        exact hh
    | succ k ih =>
      intro i b p hi h1 hb hg
      have b1 := hS i
      have b2 := hS N
      have b4 : tsum t i = tsum t (i - 1) + t (i - 1) := by
        have : tsum t (i - 1 + 1) = tsum t (i - 1) + t (i - 1) := rfl
        rw [show i - 1 + 1 = i by omega] at this
        exact this
      have e1 : nI i - 1 = nI (i - 1) := pk_sub (a := i) (b := 1) h1
      have e2 : nI (tsum t (i - 1)) + nI (t (i - 1)) = nI (tsum t i) := by rw [nI_add, b4]
      have e3 : 2 * nI (tsum t i) = nI (2 * tsum t i) := pk_mul 2 _
      have e9 : ∀ q : Nat, nI (q + 1) = nI q + 1 := fun q => (nI_1 q).symm
      ((repeat' first | refine hP _ ?_ | fail); try dsimp only)
      refine ⟨fun c => absurd c (nI_ge (by omega) (by omega)), fun _ => ?_⟩
      ((repeat' first | refine hP _ ?_ | fail); try dsimp only)
      rw [e1]
      refine m_X12_octet (by omega) ?_
      rw [hv]
      ((repeat' first | refine hP _ ?_ | fail); try dsimp only)
      rw [e2, e3]
      refine m_X12_size ?_
      rw [ab2 (by omega) (by omega)]
      ((repeat' first | refine hP _ ?_ | fail); try dsimp only)
      rw [tnG_s] at hg
      refine ⟨fun c => ?_, fun c => ?_⟩
      · rw [if_pos ((nI_ltI (by unfold adif; split <;> omega) (by omega)).mp c)] at hg
        have e := ih (i + 1) _ i (by omega) (by omega) (by unfold adif; split <;> omega) hg
        rw [e9, show i + 1 - 1 = i by omega] at e
        ((repeat' first | refine hP _ ?_ | fail); try dsimp only)
        rw [e3]
        refine m_X12_size ?_
        rw [ab2 (by omega) (by omega)]
        ((iterate 5 refine hP _ ?_); try dsimp only)
        exact e
      · rw [if_neg (fun q => c (nI_lt q (by omega)))] at hg
        have e := ih (i + 1) b p (by omega) (by omega) hb hg
        rw [e9, show i + 1 - 1 = i by omega] at e
        ((iterate 3 refine hP _ ?_); try dsimp only)
        exact e
  have key1 : ∀ (k i : Nat), i + k = N → P (cd_X12_tent.drop 23, [some (.ref 62), some (.int (nI N)), some (.int what), some (.int (nI (tsum t i))), some (.int (nI i)), none, none, none], [], (am_sh, v, w), 0, 0) := by
    intro k
    induction k with
    | zero =>
      intro i hi
      have hi : i = N := by omega
      subst hi
      ((repeat' first | refine hP _ ?_ | fail); try dsimp only)
      refine ⟨fun _ => ?_, fun c => absurd (nI_le (Nat.le_refl i) (by omega)) c⟩
      have e := key2 (i - 1) 1 1000000 0 (by omega) (by omega) (by omega) rfl
      ((iterate 8 refine hP _ ?_); try dsimp only)
      exact e
    | succ k ih =>
      intro i hi
      ((repeat' first | refine hP _ ?_ | fail); try dsimp only)
      refine ⟨fun c => absurd c (nI_ge (by omega) (by omega)), fun _ => ?_⟩
      ((repeat' first | refine hP _ ?_ | fail); try dsimp only)
      refine m_X12_octet (by omega) ?_
      rw [hv]
      have e := ih (i + 1) (by omega)
      rw [tsum, ← nI_add, ← nI_1] at e
      ((iterate 4 refine hP _ ?_); try dsimp only)
      exact e
  exact key1 N 0 (by omega)
end M31b
