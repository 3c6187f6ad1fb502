/-! ===== pairs: keep, undo, kingIs ===== -/
theorem am_q {Q : Option Value → am_H → Prop} {o : Option Value} {sh : List am_S} {v v' : am_V} {w : am_X} (e : v = v') (h : Q o (sh, v', w)) : Q o (sh, v, w) := e ▸ h
/-- a king copied over another -/
def f_king (v : am_V) (k o : Nat) : am_V := fun x y => if x = k ∧ y < 6 then v o y else v x y
def f_meet (v : am_V) (c a b c2 a2 b2 : Nat) : am_V := am_up (am_up (f_king (f_king v a a2) b b2) c 2 (v c2 2)) c 3 (v c2 3)
/-- the first k of a row copied over another -/
def f_row (v : am_V) (r q k : Nat) : am_V := fun x y => if x = q ∧ y < k then v r y else v x y
theorem f_row_0 (v : am_V) (r q : Nat) : f_row v r q 0 = v := by
  funext x y
  simp [f_row]
theorem f_row_s {v : am_V} {r q k : Nat} (h : r ≠ q) : am_up (f_row v r q k) q k (f_row v r q k r k) = f_row v r q (k + 1) := by
  funext x y
  simp only [am_up_eq, f_row, h, false_and, if_false]
  by_cases hx : x = q
  · subst hx
    by_cases hy : y = k
    · subst hy
      simp
    · by_cases h2 : y < k
      · simp [hy, h2, Nat.lt_succ_of_lt h2]
      · have : ¬ y < k + 1 := by omega
        simp [hy, h2, this]
  · simp [hx]
theorem f_king_eq {v : am_V} {k o : Nat} (h : o ≠ k) : am_up (am_up (am_up (am_up (am_up (am_up v k 0 (v o 0)) k 1 (v o 1)) k 2 (v o 2)) k 3 (v o 3)) k 4 (v o 4)) k 5 (v o 5) = f_king v k o := by
  funext x y
  simp only [am_up_eq, f_king]
  by_cases hx : x = k
  · subst hx
    match y with
    | 0 => simp
    | 1 => simp
    | 2 => simp
    | 3 => simp
    | 4 => simp
    | 5 => simp
    | y + 6 =>
      have : ¬ y + 6 < 6 := by omega
      simp [this]
  · simp [hx]
section M24
variable {K : am_K} {I : am_I} {d : Nat} {v : am_V} {w : am_X} {Q : Option Value → am_H → Prop}
set_option maxRecDepth 100000 in
set_option maxHeartbeats 4000000 in
theorem m_X1_become {k o : Nat} (hko : (k = 37 ∧ o = 31) ∨ (k = 38 ∧ o = 32) ∨ (k = 31 ∧ o = 37) ∨ (k = 32 ∧ o = 38) ∨ (k = 34 ∧ o = 31) ∨ (k = 35 ∧ o = 32)) (hb : iv_bit (v o 3) ∧ iv_bit (v o 4) ∧ iv_bit (v o 5)) (h : Q none (am_sh, f_king v k o, w)) : am_run K I am_m (d + 1) 18 [.ref k, .ref o] (am_sh, v, w) 0 0 Q := by
  rcases hko with ⟨rfl, rfl⟩ | ⟨rfl, rfl⟩ | ⟨rfl, rfl⟩ | ⟨rfl, rfl⟩ | ⟨rfl, rfl⟩ | ⟨rfl, rfl⟩
  all_goals
    refine en_X1_become rfl ?_
    intro P hP
    ((repeat' first | refine hP _ ?_ | fail); try dsimp only)
    refine ⟨by simpa [am_up_eq, iv_bit] using hb.1, ?_⟩
    ((repeat' first | refine hP _ ?_ | fail); try dsimp only)
    refine ⟨by simpa [am_up_eq, iv_bit] using hb.2.1, ?_⟩
    ((repeat' first | refine hP _ ?_ | fail); try dsimp only)
    refine ⟨by simpa [am_up_eq, iv_bit] using hb.2.2, ?_⟩
    ((repeat' first | refine hP _ ?_ | fail); try dsimp only)
    refine am_q ?_ h
    rw [← f_king_eq (by decide)]
    simp [am_up_eq]
def iv_mm (c a b c2 a2 b2 : Nat) : Prop := (c = 36 ∧ a = 37 ∧ b = 38 ∧ c2 = 30 ∧ a2 = 31 ∧ b2 = 32) ∨ (c = 30 ∧ a = 31 ∧ b = 32 ∧ c2 = 36 ∧ a2 = 37 ∧ b2 = 38) ∨ (c = 33 ∧ a = 34 ∧ b = 35 ∧ c2 = 30 ∧ a2 = 31 ∧ b2 = 32)
set_option maxRecDepth 100000 in
set_option maxHeartbeats 4000000 in
theorem m_X5_become {c a b c2 a2 b2 : Nat} (hm : iv_mm c a b c2 a2 b2) (ha : iv_bit (v a2 3) ∧ iv_bit (v a2 4) ∧ iv_bit (v a2 5)) (hb : iv_bit (v b2 3) ∧ iv_bit (v b2 4) ∧ iv_bit (v b2 5)) (h : Q none (am_sh, f_meet v c a b c2 a2 b2, w)) : am_run K I am_m (d + 2) 63 [.ref c, .ref c2] (am_sh, v, w) 0 0 Q := by
  rcases hm with ⟨rfl, rfl, rfl, rfl, rfl, rfl⟩ | ⟨rfl, rfl, rfl, rfl, rfl, rfl⟩ | ⟨rfl, rfl, rfl, rfl, rfl, rfl⟩
  all_goals
    refine en_X5_become rfl ?_
    intro P hP
    ((repeat' first | refine hP _ ?_ | fail); try dsimp only)
    refine m_X1_become (by decide) ha ?_
    ((repeat' first | refine hP _ ?_ | fail); try dsimp only)
    refine m_X1_become (by decide) (by simpa [f_king] using hb) ?_
    ((repeat' first | refine hP _ ?_ | fail); try dsimp only)
    refine am_q ?_ h
    simp [f_meet, f_king, am_up_eq]
set_option maxRecDepth 100000 in
set_option maxHeartbeats 4000000 in
theorem m_X12_copies {r q : Nat} (hrq : (r = 63 ∧ q = 64) ∨ (r = 64 ∧ q = 63) ∨ (r = 63 ∧ q = 65) ∨ (r = 65 ∧ q = 63)) (h : Q none (am_sh, f_row v r q 14, w)) : am_run K I am_m (d + 1) 144 [.ref r, .ref q] (am_sh, v, w) 0 0 Q := by
  refine en_X12_copies rfl ?_
  intro P hP
  have key : ∀ n k : Nat, k + n = 14 → P (cd_X12_copies.drop 2, [some (.ref r), some (.ref q), some (.int (nI k))], [], (am_sh, f_row v r q k, w), 0, 0) := by
    intro n
    induction n with
    | zero =>
      intro k hk
      ((repeat' first | refine hP _ ?_ | fail); try dsimp only)
      refine ⟨fun _ => ?_, fun c => absurd (show (14 : Int32) ≤ nI k by rw [show k = 14 by omega]; decide) c⟩
      ((repeat' first | refine hP _ ?_ | fail); try dsimp only)
      rw [show k = 14 by omega]
      exact h
    | succ n ih =>
      intro k hk
      ((repeat' first | refine hP _ ?_ | fail); try dsimp only)
      refine ⟨fun c => absurd c (nI_ge (a := k) (b := 14) (by omega) (by omega)), fun _ => ?_⟩
      rcases hrq with ⟨rfl, rfl⟩ | ⟨rfl, rfl⟩ | ⟨rfl, rfl⟩ | ⟨rfl, rfl⟩
      all_goals
        ((repeat' first | refine hP _ ?_ | fail); try dsimp only)
        refine ⟨vp_in_nI (by omega) (by omega), ?_⟩
        ((repeat' first | refine hP _ ?_ | fail); try dsimp only)
        refine ⟨vp_in_nI (by omega) (by omega), ?_⟩
        have hc : (nI k).toNatClampNeg = k := nI_clamp (by omega)
        have e := ih (k + 1) (by omega)
        rw [← f_row_s (by decide), show nI (k + 1) = nI k + 1 from (nI_1 k).symm] at e
        dsimp only
        rw [hc]
        refine hP _ ?_
        refine hP _ ?_
        exact e
  rw [← f_row_0 v r q]
  rcases hrq with ⟨rfl, rfl⟩ | ⟨rfl, rfl⟩ | ⟨rfl, rfl⟩ | ⟨rfl, rfl⟩
  all_goals
    refine hP _ ?_
    refine hP _ ?_
    exact key 14 0 rfl
end M24
