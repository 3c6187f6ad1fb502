/-! ===== small methods ===== -/
theorem am_vin {i : Int32} {n : Nat} (h : decide (i < 0 ∨ n ≤ i.toNatClampNeg) = false) : vp_in i n := of_decide_eq_false h
theorem am_01 {k : Int32} (h1 : 0 ≤ k) (h2 : k ≤ 1) : k = 0 ∨ k = 1 := by
  have a := Int32.le_iff_toInt_le.mp h1
  have b := Int32.le_iff_toInt_le.mp h2
  rw [show (0 : Int32).toInt = 0 from rfl] at a
  rw [show (1 : Int32).toInt = 1 from rfl] at b
  rcases (show k.toInt = 0 ∨ k.toInt = 1 by omega) with h | h
  · exact Or.inl (Int32.toInt_inj.mp h)
  · exact Or.inr (Int32.toInt_inj.mp h)
theorem tn_0_0 : Int32.toNatClampNeg (0 + 0) = 0 := rfl
theorem tn_0_1 : Int32.toNatClampNeg (0 + 1) = 1 := rfl
theorem tn_2_0 : Int32.toNatClampNeg (2 + 0) = 2 := rfl
theorem tn_2_1 : Int32.toNatClampNeg (2 + 1) = 3 := rfl
theorem tn_4_0 : Int32.toNatClampNeg (4 + 0) = 4 := rfl
theorem tn_4_1 : Int32.toNatClampNeg (4 + 1) = 5 := rfl
theorem tn_6_0 : Int32.toNatClampNeg (6 + 0) = 6 := rfl
theorem tn_6_1 : Int32.toNatClampNeg (6 + 1) = 7 := rfl
theorem tn_8_0 : Int32.toNatClampNeg (8 + 0) = 8 := rfl
theorem tn_8_1 : Int32.toNatClampNeg (8 + 1) = 9 := rfl
theorem tn_10_0 : Int32.toNatClampNeg (10 + 0) = 10 := rfl
theorem tn_10_1 : Int32.toNatClampNeg (10 + 1) = 11 := rfl
theorem tn_0 : Int32.toNatClampNeg 0 = 0 := rfl
theorem tn_1 : Int32.toNatClampNeg 1 = 1 := rfl
theorem tn_2 : Int32.toNatClampNeg 2 = 2 := rfl
theorem tn_3 : Int32.toNatClampNeg 3 = 3 := rfl
theorem tn_4 : Int32.toNatClampNeg 4 = 4 := rfl
theorem tn_5 : Int32.toNatClampNeg 5 = 5 := rfl
theorem tn_6 : Int32.toNatClampNeg 6 = 6 := rfl
theorem tn_7 : Int32.toNatClampNeg 7 = 7 := rfl
theorem tn_8 : Int32.toNatClampNeg 8 = 8 := rfl
theorem tn_9 : Int32.toNatClampNeg 9 = 9 := rfl
theorem tn_10 : Int32.toNatClampNeg 10 = 10 := rfl
theorem tn_11 : Int32.toNatClampNeg 11 = 11 := rfl
theorem tn_12 : Int32.toNatClampNeg 12 = 12 := rfl
theorem tn_13 : Int32.toNatClampNeg 13 = 13 := rfl
theorem tn_14 : Int32.toNatClampNeg 14 = 14 := rfl
theorem tn_15 : Int32.toNatClampNeg 15 = 15 := rfl
theorem tn_16 : Int32.toNatClampNeg 16 = 16 := rfl
theorem tn_17 : Int32.toNatClampNeg 17 = 17 := rfl
theorem tn_18 : Int32.toNatClampNeg 18 = 18 := rfl
theorem tn_19 : Int32.toNatClampNeg 19 = 19 := rfl
theorem tn_20 : Int32.toNatClampNeg 20 = 20 := rfl
theorem tn_21 : Int32.toNatClampNeg 21 = 21 := rfl
theorem tn_22 : Int32.toNatClampNeg 22 = 22 := rfl
theorem tn_23 : Int32.toNatClampNeg 23 = 23 := rfl
section M22
variable {K : am_K} {I : am_I} {d : Nat} {v : am_V} {w : am_X} {sh : List am_S} {Q : Option Value → am_H → Prop}
set_option maxRecDepth 100000 in
set_option maxHeartbeats 4000000 in
theorem m_X11_outside {a b c : Int32} (h1 : a < b ∨ c < a → Q (some (.int 1)) (sh, v, w)) (h0 : b ≤ a → a ≤ c → Q (some (.int 0)) (sh, v, w)) : am_run K I am_m (d + 1) 135 [.int a, .int b, .int c] (sh, v, w) 0 0 Q := by
  refine en_X11_outside rfl ?_
  intro P hP
  ((repeat' first | refine hP _ ?_ | refine ⟨fun c1 => absurd c1 (by decide), fun _ => ?_⟩ | refine ⟨fun _ => ?_, fun c1 => absurd c1 (by decide)⟩ | refine ⟨am_vin rfl, ?_⟩ | refine ⟨fun c1 => ?_, fun c1 => ?_⟩ | refine ⟨Or.inr rfl, ?_⟩ | refine ⟨Or.inl rfl, ?_⟩ | fail); all_goals (try dsimp only at *))
  · exact h1 (Or.inl (by assumption))
  · exact h0 (Int32.not_lt.mp (by assumption)) (by assumption)
  · exact h1 (Or.inr (Int32.not_le.mp (by assumption)))
set_option maxRecDepth 100000 in
set_option maxHeartbeats 4000000 in
theorem m_X12_in {a b c : Int32} (h1 : b ≤ a → a ≤ c → Q (some (.int 1)) (sh, v, w)) (h0 : a < b ∨ c < a → Q (some (.int 0)) (sh, v, w)) : am_run K I am_m (d + 1) 138 [.int a, .int b, .int c] (sh, v, w) 0 0 Q := by
  refine en_X12_in rfl ?_
  intro P hP
  ((repeat' first | refine hP _ ?_ | refine ⟨fun c1 => absurd c1 (by decide), fun _ => ?_⟩ | refine ⟨fun _ => ?_, fun c1 => absurd c1 (by decide)⟩ | refine ⟨am_vin rfl, ?_⟩ | refine ⟨fun c1 => ?_, fun c1 => ?_⟩ | refine ⟨Or.inr rfl, ?_⟩ | refine ⟨Or.inl rfl, ?_⟩ | fail); all_goals (try dsimp only at *))
  · exact h0 (Or.inl (by assumption))
  · exact h0 (Or.inr (by assumption))
  · exact h1 (Int32.not_lt.mp (by assumption)) (Int32.not_lt.mp (by assumption))
set_option maxRecDepth 100000 in
set_option maxHeartbeats 4000000 in
theorem m_X12_min {a b : Int32} (h : Q (some (.int (if a < b then a else b))) (sh, v, w)) : am_run K I am_m (d + 1) 139 [.int a, .int b] (sh, v, w) 0 0 Q := by
  refine en_X12_min rfl ?_
  intro P hP
  ((repeat' first | refine hP _ ?_ | refine ⟨fun c1 => absurd c1 (by decide), fun _ => ?_⟩ | refine ⟨fun _ => ?_, fun c1 => absurd c1 (by decide)⟩ | refine ⟨am_vin rfl, ?_⟩ | refine ⟨fun c1 => ?_, fun c1 => ?_⟩ | refine ⟨Or.inr rfl, ?_⟩ | refine ⟨Or.inl rfl, ?_⟩ | fail); all_goals (try dsimp only at *))
  · rw [if_neg (Int32.not_lt.mpr c1)] at h
    exact h
  · rw [if_pos (Int32.not_le.mp c1)] at h
    exact h
set_option maxRecDepth 100000 in
set_option maxHeartbeats 4000000 in
theorem m_X12_max {a b : Int32} (h : Q (some (.int (if b < a then a else b))) (sh, v, w)) : am_run K I am_m (d + 1) 140 [.int a, .int b] (sh, v, w) 0 0 Q := by
  refine en_X12_max rfl ?_
  intro P hP
  ((repeat' first | refine hP _ ?_ | refine ⟨fun c1 => absurd c1 (by decide), fun _ => ?_⟩ | refine ⟨fun _ => ?_, fun c1 => absurd c1 (by decide)⟩ | refine ⟨am_vin rfl, ?_⟩ | refine ⟨fun c1 => ?_, fun c1 => ?_⟩ | refine ⟨Or.inr rfl, ?_⟩ | refine ⟨Or.inl rfl, ?_⟩ | fail); all_goals (try dsimp only at *))
  · rw [if_neg (Int32.not_lt.mpr c1)] at h
    exact h
  · rw [if_pos (Int32.not_le.mp c1)] at h
    exact h
set_option maxRecDepth 100000 in
set_option maxHeartbeats 4000000 in
theorem m_X12_size {a : Int32} (h : Q (some (.int (if a < 0 then -a else a))) (sh, v, w)) : am_run K I am_m (d + 1) 141 [.int a] (sh, v, w) 0 0 Q := by
  refine en_X12_size rfl ?_
  intro P hP
  ((repeat' first | refine hP _ ?_ | refine ⟨fun c1 => absurd c1 (by decide), fun _ => ?_⟩ | refine ⟨fun _ => ?_, fun c1 => absurd c1 (by decide)⟩ | refine ⟨am_vin rfl, ?_⟩ | refine ⟨fun c1 => ?_, fun c1 => ?_⟩ | refine ⟨Or.inr rfl, ?_⟩ | refine ⟨Or.inl rfl, ?_⟩ | fail); all_goals (try dsimp only at *))
  · rw [if_neg (Int32.not_lt.mpr c1)] at h
    exact h
  · rw [if_pos (Int32.not_le.mp c1)] at h
    exact h
/-- whether a set has a bit -/
def f_has (s k : Int32) : Int32 := if (s >>> (k &&& 31)) &&& 1 = 1 then 1 else 0
set_option maxRecDepth 100000 in
set_option maxHeartbeats 4000000 in
theorem m_X12_has {a k : Int32} (h : Q (some (.int (f_has a k))) (sh, v, w)) : am_run K I am_m (d + 1) 142 [.int a, .int k] (sh, v, w) 0 0 Q := by
  refine en_X12_has rfl ?_
  intro P hP
  ((repeat' first | refine hP _ ?_ | refine ⟨fun c1 => absurd c1 (by decide), fun _ => ?_⟩ | refine ⟨fun _ => ?_, fun c1 => absurd c1 (by decide)⟩ | refine ⟨am_vin rfl, ?_⟩ | refine ⟨fun c1 => ?_, fun c1 => ?_⟩ | refine ⟨Or.inr rfl, ?_⟩ | refine ⟨Or.inl rfl, ?_⟩ | fail); all_goals (try dsimp only at *))
  · rw [f_has, if_neg c1] at h
    exact h
  · rw [f_has, if_pos c1] at h
    exact h
set_option maxRecDepth 100000 in
set_option maxHeartbeats 4000000 in
theorem m_X8_has {n : Int32} (h1 : n ≤ v 1 1 → Q (some (.int 1)) (am_sh, v, w)) (h0 : v 1 1 < n → Q (some (.int 0)) (am_sh, v, w)) : am_run K I am_m (d + 1) 83 [.ref 1, .int n] (am_sh, v, w) 0 0 Q := by
  refine en_X8_has rfl ?_
  intro P hP
  ((repeat' first | refine hP _ ?_ | refine ⟨fun c1 => absurd c1 (by decide), fun _ => ?_⟩ | refine ⟨fun _ => ?_, fun c1 => absurd c1 (by decide)⟩ | refine ⟨am_vin rfl, ?_⟩ | refine ⟨fun c1 => ?_, fun c1 => ?_⟩ | refine ⟨Or.inr rfl, ?_⟩ | refine ⟨Or.inl rfl, ?_⟩ | fail); all_goals (try dsimp only at *))
  · exact h0 (by assumption)
  · exact h1 (Int32.not_lt.mp (by assumption))
set_option maxRecDepth 100000 in
set_option maxHeartbeats 4000000 in
theorem m_X8_clear (h : Q none (am_sh, am_up v 1 1 0, w)) : am_run K I am_m (d + 1) 86 [.ref 1] (am_sh, v, w) 0 0 Q := by
  refine en_X8_clear rfl ?_
  intro P hP
  ((repeat' first | refine hP _ ?_ | refine ⟨fun c1 => absurd c1 (by decide), fun _ => ?_⟩ | refine ⟨fun _ => ?_, fun c1 => absurd c1 (by decide)⟩ | refine ⟨am_vin rfl, ?_⟩ | refine ⟨fun c1 => ?_, fun c1 => ?_⟩ | refine ⟨Or.inr rfl, ?_⟩ | refine ⟨Or.inl rfl, ?_⟩ | fail); all_goals (try dsimp only at *))
  exact h
set_option maxRecDepth 100000 in
set_option maxHeartbeats 4000000 in
theorem m_X8_byteAt {i : Nat} (hi : i < 260) {n : Nat} (hn : v 1 1 = nI n) (hn2 : n ≤ 260) (h : Q (some (.int (if i < n then v 2 i else -1))) (am_sh, v, w)) : am_run K I am_m (d + 1) 85 [.ref 1, .int (nI i)] (am_sh, v, w) 0 0 Q := by
  refine en_X8_byteAt rfl ?_
  intro P hP
  ((repeat' first | refine hP _ ?_ | fail); try dsimp only)
  refine ⟨fun c1 => absurd c1 (Int32.not_lt.mpr (nI_pos' (by omega))), fun _ => ?_⟩
  ((repeat' first | refine hP _ ?_ | fail); try dsimp only)
  rw [hn]
  refine ⟨fun c1 => ?_, fun c1 => ?_⟩
  · ((repeat' first | refine hP _ ?_ | refine ⟨fun c1 => absurd c1 (by decide), fun _ => ?_⟩ | refine ⟨fun _ => ?_, fun c1 => absurd c1 (by decide)⟩ | refine ⟨am_vin rfl, ?_⟩ | refine ⟨fun c1 => ?_, fun c1 => ?_⟩ | refine ⟨Or.inr rfl, ?_⟩ | refine ⟨Or.inl rfl, ?_⟩ | fail); all_goals (try dsimp only at *))
    rw [if_neg (by
      intro q
      exact absurd ((nI_leI (by omega) (by omega)).mp c1) (by omega))] at h
    exact h
  · ((repeat' first | refine hP _ ?_ | fail); try dsimp only)
    refine ⟨vp_in_nI hi (by omega), ?_⟩
    ((repeat' first | refine hP _ ?_ | fail); try dsimp only)
    rw [if_pos (by
      rcases Nat.lt_or_ge i n with q | q
      · exact q
      · exact absurd ((nI_leI (by omega) (by omega)).mpr q) c1)] at h
    rw [nI_clamp (by omega)]
    exact h
end M22
