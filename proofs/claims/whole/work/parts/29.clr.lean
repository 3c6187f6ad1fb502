/-! ===== what stays when the tape is cleared ===== -/
def iv_impL : List Nat := [0, 3, 4, 5, 6, 7, 22, 23, 24, 25, 30, 31, 32, 36, 37, 38, 63, 65, 73, 74, 75, 76, 77, 88, 89, 93]
theorem INV.of {v v' : am_V} (hI : INV v) (h : ∀ k, k ∈ iv_impL → v' k = v k) (h62 : ∀ j, j ∈ [3, 4, 15, 48, 62] → v' 62 j = v 62 j) (ht : iv_tape v') : INV v' := by
  obtain ⟨hm, hk, hmi, -, hl, hr⟩ := hI
  refine ⟨?_, ?_, ?_, ht, ?_, ?_⟩
  · unfold iv_meet iv_rng
    rw [h 30 (by decide), h 31 (by decide), h 32 (by decide), h 63 (by decide)]
    exact hm
  · unfold iv_meet iv_rng
    rw [h 0 (by decide), h 36 (by decide), h 37 (by decide), h 38 (by decide), h 65 (by decide)]
    exact hk
  · unfold iv_misc
    rw [h 0 (by decide), h62 62 (by decide), h62 3 (by decide), h62 4 (by decide)]
    exact hmi
  · unfold iv_law
    rw [h 3 (by decide), h 4 (by decide), h 5 (by decide), h 6 (by decide), h 7 (by decide), h62 15 (by decide), h 73 (by decide), h 74 (by decide), h 75 (by decide), h 76 (by decide), h 77 (by decide)]
    exact hl
  · unfold iv_tre
    rw [h 22 (by decide), h 23 (by decide), h 24 (by decide), h 25 (by decide), h62 48 (by decide), h 88 (by decide), h 89 (by decide), h 93 (by decide)]
    exact hr
/-- with the tape cleared -/
theorem INV.clr {v v' : am_V} (hI : INV v) (h : ∀ k, k ∈ iv_impL → v' k = v k) (h62 : ∀ j, j ∈ [3, 4, 15, 48, 62] → v' 62 j = v 62 j) (h1 : v' 1 1 = 0) (h6 : v' 62 6 = 0) : INV v' := hI.of h h62 ⟨0, by omega, h1, h6, fun i hi => absurd hi (by omega)⟩
/-- with the tape as it was -/
theorem INV.scr {v v' : am_V} (hI : INV v) (h : ∀ k, k ∈ iv_impL → v' k = v k) (h62 : ∀ j, j ∈ [3, 4, 6, 15, 48, 62] → v' 62 j = v 62 j) (h1 : v' 1 = v 1) (h2 : v' 2 = v 2) (h66 : v' 66 = v 66) : INV v' := by
  refine hI.of h (fun j hj => h62 j (by revert hj; simp; omega)) ?_
  unfold iv_tape
  rw [h1, h2, h66, h62 6 (by decide)]
  exact hI.2.2.2.1
section M29
variable {K : am_K} {I : am_I} {d : Nat} {v : am_V} {w : am_X} {Q : Option Value → am_H → Prop}
set_option maxRecDepth 100000 in
set_option maxHeartbeats 4000000 in
theorem m_X12_octet {i : Nat} (hi : i < 260) (h : Q (some (.int (v 66 i &&& 255))) (am_sh, v, w)) : am_run K I am_m (d + 1) 151 [.ref 62, .int (nI i)] (am_sh, v, w) 0 0 Q := by
  refine en_X12_octet rfl ?_
  intro P hP
  ((repeat' first | refine hP _ ?_ | fail); try dsimp only)
  refine ⟨vp_in_nI hi (by omega), ?_⟩
  ((repeat' first | refine hP _ ?_ | fail); try dsimp only)
  rw [nI_clamp (by omega)]
  exact h
theorem m_byteAt {i n : Nat} (hi : i < n) (hn : v 1 1 = nI n) (hn2 : n ≤ 260) (h : Q (some (.int (v 2 i))) (am_sh, v, w)) : am_run K I am_m (d + 1) 85 [.ref 1, .int (nI i)] (am_sh, v, w) 0 0 Q := m_X8_byteAt (by omega) hn hn2 (by rw [if_pos hi]; exact h)
end M29
def f_mx (x y : Int32) : Int32 := if x < y then y else x
theorem f_mx2 (x y : Int32) : (if y < x then x else y) = f_mx x y := by
  unfold f_mx
  by_cases h1 : x < y
  · rw [if_pos h1, if_neg (by
      have a := Int32.lt_iff_toInt_lt.mp h1
      rw [Int32.lt_iff_toInt_lt]
      omega)]
  · rw [if_neg h1]
    by_cases h2 : y < x
    · rw [if_pos h2]
    · rw [if_neg h2]
      have a : ¬ x.toInt < y.toInt := fun q => h1 (Int32.lt_iff_toInt_lt.mpr q)
      have b : ¬ y.toInt < x.toInt := fun q => h2 (Int32.lt_iff_toInt_lt.mpr q)
      exact Int32.toInt_inj.mp (by omega)
def f_mn (x y : Int32) : Int32 := if y < x then y else x
theorem f_mn2 (x y : Int32) : (if x < y then x else y) = f_mn x y := by
  unfold f_mn
  by_cases h1 : x < y
  · rw [if_pos h1, if_neg (by
      have a := Int32.lt_iff_toInt_lt.mp h1
      rw [Int32.lt_iff_toInt_lt]
      omega)]
  · rw [if_neg h1]
    by_cases h2 : y < x
    · rw [if_pos h2]
    · rw [if_neg h2]
      have a : ¬ x.toInt < y.toInt := fun q => h1 (Int32.lt_iff_toInt_lt.mpr q)
      have b : ¬ y.toInt < x.toInt := fun q => h2 (Int32.lt_iff_toInt_lt.mpr q)
      exact Int32.toInt_inj.mp (by omega)
