/-! ===== titles ===== -/
def dpT (W : Nat) (a b : Nat → Nat) : Nat → Nat → Nat
  | 0, 0 => 0
  | 0, j + 1 => dpT W a b 0 j + W * b j
  | i + 1, 0 => dpT W a b i 0 + W * a i
  | i + 1, j + 1 => min (min (dpT W a b i (j + 1) + W * a i) (dpT W a b (i + 1) j + W * b j)) (dpT W a b i j + W * max (a i) (b j) - 1)
termination_by i j => i + j
theorem dpT_bd {W : Nat} {a b : Nat → Nat} (ha : ∀ i, a i ≤ 255) (hb : ∀ i, b i ≤ 255) : ∀ (s i j : Nat), i + j = s → dpT W a b i j ≤ 255 * W * (i + j) := by
  intro s
  induction s using Nat.strongRecOn with
  | ind s ih =>
    intro i j hs
    have m1 : ∀ x, x ≤ 255 → W * x ≤ 255 * W := fun x hx => by
      rw [Nat.mul_comm]
      exact Nat.mul_le_mul_right W hx
    match i, j with
    | 0, 0 => simp [dpT]
    | 0, j + 1 =>
      have := ih j (by omega) 0 j (by omega)
      have := m1 _ (hb j)
      rw [dpT]
      simp only [Nat.zero_add, Nat.mul_add, Nat.mul_one] at *
      omega
    | i + 1, 0 =>
      have := ih i (by omega) i 0 (by omega)
      have := m1 _ (ha i)
      rw [dpT]
      simp only [Nat.add_zero, Nat.mul_add, Nat.mul_one] at *
      omega
    | i + 1, j + 1 =>
      have h1 := ih (i + (j + 1)) (by omega) i (j + 1) rfl
      have h2 := m1 _ (ha i)
      rw [dpT]
      refine Nat.le_trans (Nat.min_le_left _ _) (Nat.le_trans (Nat.min_le_left _ _) ?_)
      have e : 255 * W * (i + 1 + (j + 1)) = 255 * W * (i + (j + 1)) + 255 * W := by
        rw [show i + 1 + (j + 1) = (i + (j + 1)) + 1 by omega, Nat.mul_add, Nat.mul_one]
      rw [e]
      exact Nat.add_le_add h1 h2
/-- both weights tell the same breaths and the same number at once -/
theorem dpT_rel {a b : Nat → Nat} (ha : ∀ i, 1 ≤ a i) (hb : ∀ i, 1 ≤ b i) : ∀ (s i j : Nat), i + j = s → i ≤ 10 → j ≤ 10 → ∃ B c : Nat, c ≤ i ∧ c ≤ j ∧ c ≤ B ∧ dpT 16 a b i j + c = 16 * B ∧ dpT 100 a b i j + c = 100 * B := by
  intro s
  induction s using Nat.strongRecOn with
  | ind s ih =>
    intro i j hs hi hj
    match i, j with
    | 0, 0 => exact ⟨0, 0, by omega, by omega, by omega, by simp [dpT], by simp [dpT]⟩
    | 0, j + 1 =>
      obtain ⟨B, c, h1, h2, h5, h3, h4⟩ := ih j (by omega) 0 j (by omega) (by omega) (by omega)
      exact ⟨B + b j, c, by omega, by omega, by omega, by rw [dpT]; omega, by rw [dpT]; omega⟩
    | i + 1, 0 =>
      obtain ⟨B, c, h1, h2, h5, h3, h4⟩ := ih i (by omega) i 0 (by omega) (by omega) (by omega)
      exact ⟨B + a i, c, by omega, by omega, by omega, by rw [dpT]; omega, by rw [dpT]; omega⟩
    | i + 1, j + 1 =>
      obtain ⟨B1, c1, p1, q1, z1, r1, t1⟩ := ih (i + (j + 1)) (by omega) i (j + 1) rfl (by omega) (by omega)
      obtain ⟨B2, c2, p2, q2, z2, r2, t2⟩ := ih (i + 1 + j) (by omega) (i + 1) j rfl (by omega) (by omega)
      obtain ⟨B3, c3, p3, q3, z3, r3, t3⟩ := ih (i + j) (by omega) i j rfl (by omega) (by omega)
      have hm : 1 ≤ max (a i) (b j) := Nat.le_trans (ha i) (Nat.le_max_left _ _)
      rw [dpT, dpT]
      generalize dpT 16 a b i (j + 1) = x1 at *
      generalize dpT 16 a b (i + 1) j = x2 at *
      generalize dpT 16 a b i j = x3 at *
      generalize dpT 100 a b i (j + 1) = y1 at *
      generalize dpT 100 a b (i + 1) j = y2 at *
      generalize dpT 100 a b i j = y3 at *
      generalize a i = aa at *
      generalize b j = bb at *
      generalize max aa bb = mm at *
      have k1 : x1 + 16 * aa + c1 = 16 * (B1 + aa) ∧ y1 + 100 * aa + c1 = 100 * (B1 + aa) := by omega
      have k2 : x2 + 16 * bb + c2 = 16 * (B2 + bb) ∧ y2 + 100 * bb + c2 = 100 * (B2 + bb) := by omega
      have k3 : x3 + 16 * mm - 1 + (c3 + 1) = 16 * (B3 + mm) ∧ y3 + 100 * mm - 1 + (c3 + 1) = 100 * (B3 + mm) := by omega
      generalize x1 + 16 * aa = X1 at *
      generalize y1 + 100 * aa = Y1 at *
      generalize x2 + 16 * bb = X2 at *
      generalize y2 + 100 * bb = Y2 at *
      generalize x3 + 16 * mm - 1 = X3 at *
      generalize y3 + 100 * mm - 1 = Y3 at *
      have w1 : c1 ≤ B1 + aa := by omega
      have w2 : c2 ≤ B2 + bb := by omega
      have w3 : c3 + 1 ≤ B3 + mm := by omega
      generalize B1 + aa = E1 at *
      generalize B2 + bb = E2 at *
      generalize B3 + mm = E3 at *
      rcases Nat.le_total X1 X2 with o1 | o1
      · have o1' : Y1 ≤ Y2 := by omega
        rw [Nat.min_eq_left o1, Nat.min_eq_left o1']
        rcases Nat.le_total X1 X3 with o2 | o2
        · have o2' : Y1 ≤ Y3 := by omega
          rw [Nat.min_eq_left o2, Nat.min_eq_left o2']
          exact ⟨E1, c1, by omega, by omega, w1, k1.1, k1.2⟩
        · have o2' : Y3 ≤ Y1 := by omega
          rw [Nat.min_eq_right o2, Nat.min_eq_right o2']
          exact ⟨E3, c3 + 1, by omega, by omega, w3, k3.1, k3.2⟩
      · have o1' : Y2 ≤ Y1 := by omega
        rw [Nat.min_eq_right o1, Nat.min_eq_right o1']
        rcases Nat.le_total X2 X3 with o2 | o2
        · have o2' : Y2 ≤ Y3 := by omega
          rw [Nat.min_eq_left o2, Nat.min_eq_left o2']
          exact ⟨E2, c2, by omega, by omega, w2, k2.1, k2.2⟩
        · have o2' : Y3 ≤ Y2 := by omega
          rw [Nat.min_eq_right o2, Nat.min_eq_right o2']
          exact ⟨E3, c3 + 1, by omega, by omega, w3, k3.1, k3.2⟩
theorem f_mnN {x y : Nat} (hx : x < 2 ^ 31) (hy : y < 2 ^ 31) : (if nI y < nI x then nI y else nI x) = nI (min x y) := by
  by_cases h : y < x
  · rw [if_pos (nI_lt h hx), Nat.min_eq_right (by omega)]
  · rw [if_neg (fun q => h ((nI_ltI hy hx).mp q)), Nat.min_eq_left (by omega)]
theorem f_mxN {x y : Nat} (hx : x < 2 ^ 31) (hy : y < 2 ^ 31) : (if nI x < nI y then nI y else nI x) = nI (max x y) := by
  by_cases h : x < y
  · rw [if_pos (nI_lt h hy), Nat.max_eq_right (by omega)]
  · rw [if_neg (fun q => h ((nI_ltI hx hy).mp q)), Nat.max_eq_left (by omega)]
/-- the rows of readBy -/
theorem s_row {i : Nat} (hi : i ≤ 10) : am_at am_sh (48 + i) = some (100, 11, []) := by
  match i, hi with
  | 0, _ => rfl
  | 1, _ => rfl
  | 2, _ => rfl
  | 3, _ => rfl
  | 4, _ => rfl
  | 5, _ => rfl
  | 6, _ => rfl
  | 7, _ => rfl
  | 8, _ => rfl
  | 9, _ => rfl
  | 10, _ => rfl
theorem s_nth {i : Nat} (hi : i ≤ 10) : am_nth [some 48, some 49, some 50, some 51, some 52, some 53, some 54, some 55, some 56, some 57, some 58] i = some (some (48 + i)) := by
  match i, hi with
  | 0, _ => rfl
  | 1, _ => rfl
  | 2, _ => rfl
  | 3, _ => rfl
  | 4, _ => rfl
  | 5, _ => rfl
  | 6, _ => rfl
  | 7, _ => rfl
  | 8, _ => rfl
  | 9, _ => rfl
  | 10, _ => rfl
section M36
variable {K : am_K} {I : am_I} {Tc : am_T} {v : am_V} {w : am_X} {Q : Option Value → am_H → Prop} {P : am_C → Prop} {cd is : List am_E} {ls : am_L} {r : List Value} {pc : Nat} {rs wl : List Nat} {im : Int32}
theorem s_aald {i : Nat} (hi : i ≤ 10) (h : P (is, ls, .ref (48 + i) :: r, (am_sh, v, w), 0, 0)) : am_step K I Tc cd 0 0 Q P ((pc, .aaload, rs, im, wl) :: is, ls, .int (nI i) :: .ref 47 :: r, (am_sh, v, w), 0, 0) := by
  refine ⟨vp_in_nI (show i < 11 by omega) (by omega), ?_⟩
  show (match am_nth [some 48, some 49, some 50, some 51, some 52, some 53, some 54, some 55, some 56, some 57, some 58] (nI i).toNatClampNeg with
    | some (some a) => P (is, ls, .ref a :: r, (am_sh, v, w), 0, 0)
    | _ => False)
  rw [nI_clamp (by omega), s_nth hi]
  exact h
theorem s_iald {i j : Nat} (hi : i ≤ 10) (hj : j ≤ 10) (h : P (is, ls, .int (v (48 + i) j) :: r, (am_sh, v, w), 0, 0)) : am_step K I Tc cd 0 0 Q P ((pc, .iaload, rs, im, wl) :: is, ls, .int (nI j) :: .ref (48 + i) :: r, (am_sh, v, w), 0, 0) := by
  dsimp only [am_step]
  rw [s_row hi]
  refine ⟨vp_in_nI (show j < 11 by omega) (by omega), ?_⟩
  rw [nI_clamp (by omega)]
  exact h
theorem s_iast {i j : Nat} {x : Int32} (hi : i ≤ 10) (hj : j ≤ 10) (h : P (is, ls, r, (am_sh, am_up v (48 + i) j x, w), 0, 0)) : am_step K I Tc cd 0 0 Q P ((pc, .iastore, rs, im, wl) :: is, ls, .int x :: .int (nI j) :: .ref (48 + i) :: r, (am_sh, v, w), 0, 0) := by
  dsimp only [am_step]
  rw [s_row hi]
  refine ⟨vp_in_nI (show j < 11 by omega) (by omega), ?_⟩
  rw [nI_clamp (by omega)]
  exact h
end M36
