/-! ===== a breath: what it comes to; the class ===== -/
def mt (v : am_V) (c a b : Nat) (r : Nat → Int32) : Prop := (v a 0 = r 0 ∧ v b 0 = r 1 ∧ v a 1 = r 2 ∧ v b 1 = r 3 ∧ v a 2 = r 4 ∧ v b 2 = r 5) ∧ (v a 3 = r 6 ∧ v b 3 = r 7 ∧ v a 4 = r 8 ∧ v b 4 = r 9 ∧ v a 5 = r 10 ∧ v b 5 = r 11) ∧ v c 2 = r 12 ∧ v c 3 = r 13
def rg (r : Nat → Int32) : Prop := (iv_in (r 0) 0 999 ∧ iv_in (r 1) 0 999 ∧ iv_in (r 2) 0 90 ∧ iv_in (r 3) 0 90 ∧ iv_in (r 4) 0 9999 ∧ iv_in (r 5) 0 9999) ∧ (iv_bit (r 6) ∧ iv_bit (r 7) ∧ iv_bit (r 8) ∧ iv_bit (r 9) ∧ iv_bit (r 10) ∧ iv_bit (r 11)) ∧ iv_in (r 12) 0 9999 ∧ iv_in (r 13) 0 65535
def bt_lot (x : Int32) : Int32 := (25173 * x + 13849) &&& 65535
def bt_G (k p q b c o u a t d : Int32) : Nat → Int32 := fun i => match i with
  | 0 => k
  | 1 => p
  | 2 => q
  | 3 => b
  | 4 => c
  | 5 => o
  | 6 => u
  | 7 => a
  | 8 => t
  | _ => d
def bt_F0 (r : Nat → Int32) : Nat → Int32 := bt_G 0 (r 0) (r 1) (r 2) (r 3) (r 4) (r 5) (r 7) (am_rem (r 12) 100) (am_rem (bt_lot (r 13)) 10)
def bt_F1 (r : Nat → Int32) : Nat → Int32 := bt_G 1 (r 1) (r 0) (r 3) (r 2) (r 5) (r 4) (r 6) (am_rem (r 12) 100) (am_rem (bt_lot (bt_lot (r 13))) 10)
def bk_hat (us : List lc_U) (F : Nat → Int32) (h : Int32) : Int32 := if lwS 104 us = true then (if lwH F 104 us = true then 0 else 1) else h
def bk_st (s f l : Int32) : Int32 := f_mx 0 (s - (if l = 0 then f else f / 2))
def bk_bw (b d u : Int32) : Int32 := f_mx 0 (f_mn 90 (b + d - u))
def bk_mo (s s' b b' h h' mS mD : Int32) : Int32 := ((if mS < s - s' then s - s' else 0) + (if mD < b - b' then b - b' else 0)) + (if h = 0 ∧ h' = 1 then 1 else 0)
def bk_of (s s' b b' h h' mS mD o : Int32) : Int32 := f_mn 9999 (o + bk_mo s s' b b' h h' mS mD)
def bt_s0 (us : List lc_U) (r : Nat → Int32) : Int32 := bk_st (r 0) (lwA (bt_F0 r) 102 9 us) (r 8)
def bt_s1 (us : List lc_U) (r : Nat → Int32) : Int32 := bk_st (r 1) (lwA (bt_F1 r) 102 9 us) (r 9)
def bt_b0 (us : List lc_U) (r : Nat → Int32) : Int32 := bk_bw (r 2) (lwA (bt_F0 r) 100 90 us) (lwA (bt_F0 r) 117 90 us)
def bt_b1 (us : List lc_U) (r : Nat → Int32) : Int32 := bk_bw (r 3) (lwA (bt_F1 r) 100 90 us) (lwA (bt_F1 r) 117 90 us)
def bt_h0 (us : List lc_U) (r : Nat → Int32) : Int32 := bk_hat us (bt_F0 r) (r 6)
def bt_h1 (us : List lc_U) (r : Nat → Int32) : Int32 := bk_hat us (bt_F1 r) (r 7)
def bt (us : List lc_U) (mS mD : Int32) (r : Nat → Int32) : Nat → Int32 := fun i => match i with
  | 0 => bt_s0 us r
  | 1 => bt_s1 us r
  | 2 => bt_b0 us r
  | 3 => bt_b1 us r
  | 4 => bk_of (bt_s0 us r) (bt_s1 us r) (bt_b0 us r) (bt_b1 us r) (bt_h0 us r) (bt_h1 us r) mS mD (r 4)
  | 5 => bk_of (bt_s1 us r) (bt_s0 us r) (bt_b1 us r) (bt_b0 us r) (bt_h1 us r) (bt_h0 us r) mS mD (r 5)
  | 6 => bt_h0 us r
  | 7 => bt_h1 us r
  | 8 => r 8
  | 9 => r 9
  | 10 => b2i (lwH (bt_F0 r) 120 us)
  | 11 => b2i (lwH (bt_F1 r) 120 us)
  | 12 => r 12 + 1
  | _ => bt_lot (bt_lot (r 13))
/-- whether a breath can go by -/
def goB (r : Nat → Int32) : Prop := ¬ (r 0 = 0 ∧ r 1 = 0) ∧ (r 10 = 0 ∧ r 11 = 0) ∧ r 12 < 9999
theorem b2i_bit (b : Bool) : iv_bit (b2i b) := by
  cases b
  · exact Or.inl rfl
  · exact Or.inr rfl
theorem bk_hat_bit {us : List lc_U} {F : Nat → Int32} {h : Int32} (hb : iv_bit h) : iv_bit (bk_hat us F h) := by
  unfold bk_hat
  split
  · split
    · exact Or.inl rfl
    · exact Or.inr rfl
  · exact hb
def kg4 (x : Nat) : Prop := x = 31 ∨ x = 32 ∨ x = 34 ∨ x = 35
def kgP (x y : Nat) : Prop := (x = 31 ∧ y = 32) ∨ (x = 32 ∧ y = 31) ∨ (x = 34 ∧ y = 35) ∨ (x = 35 ∧ y = 34)
def mgP (c a b : Nat) : Prop := (c = 30 ∧ a = 31 ∧ b = 32) ∨ (c = 33 ∧ a = 34 ∧ b = 35)
section M64
variable {K : am_K} {I : am_I} {d : Nat} {v : am_V} {w : am_X} {Q : Option Value → am_H → Prop} {us : List lc_U} {z : Nat} {F : Nat → Int32}
set_option maxRecDepth 100000 in
set_option maxHeartbeats 4000000 in
theorem m_draw {c : Nat} (hc : c = 30 ∨ c = 33) (h : Q (some (.int (am_rem (bt_lot (v c 3)) 10))) (am_sh, am_up v c 3 (bt_lot (v c 3)), w)) : am_run K I am_m (d + 1) 70 [.ref c] (am_sh, v, w) 0 0 Q := by
  rcases hc with rfl | rfl
  all_goals
    refine en_X5_draw rfl ?_
    intro P hP
    ((repeat' first | refine hP _ ?_ | fail); try dsimp only)
    refine ⟨by decide, ?_⟩
    ((repeat' first | refine hP _ ?_ | fail); try dsimp only)
    refine am_qr ?_ rfl h
    rw [am_up_eq, if_pos ⟨rfl, rfl⟩]
    rfl
set_option maxRecDepth 100000 in
set_option maxHeartbeats 4000000 in
theorem m_lookAt {x y : Nat} (hxy : kgP x y) {k br dr : Int32} (hb : iv_bit (v y 3)) (h : ∀ v' : am_V, (∀ j, j ≠ 9 → v' j = v j) → (∀ a, a < 10 → v' 9 a = bt_G k (v x 0) (v y 0) (v x 1) (v y 1) (v x 2) (v y 2) (v y 3) (am_rem br 100) dr a) → Q none (am_sh, v', w)) : am_run K I am_m (d + 1) 41 [.ref 3, .int k, .ref x, .ref y, .int br, .int dr] (am_sh, v, w) 0 0 Q := by
  have fin : ∀ h7 : Int32, h7 = v y 3 → x ≠ 9 → y ≠ 9 → Q none (am_sh, am_up (am_up (am_up (am_up (am_up (am_up (am_up (am_up (am_up (am_up v 9 0 k) 9 1 (v x 0)) 9 2 (v y 0)) 9 3 (v x 1)) 9 4 (v y 1)) 9 5 (v x 2)) 9 6 (v y 2)) 9 7 h7) 9 8 (am_rem br 100)) 9 9 dr, w) := by
    intro h7 e hx hy
    refine h _ (fun j hj => by simp only [am_up_ne _ _ _ hj]) (fun a ha => ?_)
    rw [e]
    rcases (show a = 0 ∨ a = 1 ∨ a = 2 ∨ a = 3 ∨ a = 4 ∨ a = 5 ∨ a = 6 ∨ a = 7 ∨ a = 8 ∨ a = 9 by omega) with rfl | rfl | rfl | rfl | rfl | rfl | rfl | rfl | rfl | rfl
    all_goals
      simp only [am_up_eq, bt_G]
      simp
  rcases hxy with ⟨rfl, rfl⟩ | ⟨rfl, rfl⟩ | ⟨rfl, rfl⟩ | ⟨rfl, rfl⟩
  all_goals
    refine en_X3_lookAt rfl ?_
    intro P hP
    ((repeat' first | refine hP _ ?_ | refine ⟨am_vin rfl, ?_⟩ | fail); try dsimp only)
    simp only [am_up_ne _ _ _ (show (31 : Nat) ≠ 9 by decide), am_up_ne _ _ _ (show (32 : Nat) ≠ 9 by decide), am_up_ne _ _ _ (show (34 : Nat) ≠ 9 by decide), am_up_ne _ _ _ (show (35 : Nat) ≠ 9 by decide)]
    refine ⟨fun c => ?_, fun c => ?_⟩
    · have f := fin 0 c.symm (by decide) (by decide)
      ((repeat' first | refine hP _ ?_ | refine ⟨am_vin rfl, ?_⟩ | refine ⟨by decide, ?_⟩ | fail); try dsimp only)
      exact f
    · have f := fin 1 (iv_bit01 hb c).symm (by decide) (by decide)
      ((repeat' first | refine hP _ ?_ | refine ⟨am_vin rfl, ?_⟩ | refine ⟨by decide, ?_⟩ | fail); try dsimp only)
      exact f
set_option maxRecDepth 100000 in
set_option maxHeartbeats 4000000 in
theorem m_ask_31 (hl : lw_is v us z) (hF : ∀ a, a < 10 → v 9 a = F a) (hb : iv_bit (v 31 3)) (h : ∀ v' : am_V, (∀ j, j ≠ 8 → j ≠ 31 → v' j = v j) → (∀ j, j < 6 → v' 31 j = v 31 j) → v' 31 6 = lwA F 102 9 us → v' 31 7 = lwA F 100 90 us → v' 31 8 = lwA F 117 90 us → v' 31 9 = bk_hat us F (v 31 3) → v' 31 10 = b2i (lwH F 120 us) → Q none (am_sh, v', w)) : am_run K I am_m (d + 4) 19 [.ref 31, .ref 3] (am_sh, v, w) 0 0 Q := by
  have hx8 : 31 ≠ 8 ∧ 31 ≠ 9 ∧ 31 ≠ 62 ∧ ∀ k, k ∈ [3, 4, 5, 6, 7, 73, 74, 75, 76, 77] → k ≠ 31 ∧ k ≠ 8 := by
    decide
  have hw : ∀ {u : am_V}, (∀ j, j ≠ 8 → j ≠ 31 → u j = v j) → lw_is u us z := fun hu => lw_is_of hl (fun k hk => hu k (hx8.2.2.2 k hk).2 (hx8.2.2.2 k hk).1) (by rw [hu 62 (by decide) (Ne.symm hx8.2.2.1)])
  have hf : ∀ {u : am_V}, (∀ j, j ≠ 8 → j ≠ 31 → u j = v j) → ∀ a, a < 10 → u 9 a = F a := fun hu a ha => by rw [hu 9 (by decide) (Ne.symm hx8.2.1)]; exact hF a ha
  have up : ∀ {u : am_V} (j : Nat) (y : Int32), (∀ j, j ≠ 8 → j ≠ 31 → u j = v j) → ∀ i, i ≠ 8 → i ≠ 31 → am_up u 31 j y i = v i := fun j y hu i h8 hi => by rw [am_up_ne _ _ _ hi]; exact hu i h8 hi
  refine en_X1_ask rfl ?_
  intro P hP
  ((repeat' first | refine hP _ ?_ | fail); try dsimp only)
  refine m_amountOf (l := 102) hl (Or.inl rfl) hF (by decide) (fun v1 h1 => ?_)
  have f1 := up (u := v1) 6 (lwA F 102 9 us) (fun j a _ => h1 j a)
  ((repeat' first | refine hP _ ?_ | fail); try dsimp only)
  refine m_amountOf (l := 100) (hw f1) (Or.inr (Or.inl rfl)) (hf f1) (by decide) (fun v2 h2 => ?_)
  have f2 := up (u := v2) 7 (lwA F 100 90 us) (fun j a b => by rw [h2 j a]; exact f1 j a b)
  ((repeat' first | refine hP _ ?_ | fail); try dsimp only)
  refine m_amountOf (l := 117) (hw f2) (Or.inr (Or.inr rfl)) (hf f2) (by decide) (fun v3 h3 => ?_)
  have f3 := up (u := v3) 8 (lwA F 117 90 us) (fun j a b => by rw [h3 j a]; exact f2 j a b)
  ((repeat' first | refine hP _ ?_ | fail); try dsimp only)
  refine m_speaksOf (l := 104) (hw f3) (by decide) ?_
  -- behind the hat: the last question
  have fin : ∀ (u : am_V) (y : Int32), y = bk_hat us F (v 31 3) → (∀ j, j ≠ 8 → u j = am_up v3 31 8 (lwA F 117 90 us) j) → P (cd_X1_ask.drop 33, [some (.ref 31), some (.ref 3)], [.int y, .ref 31], (am_sh, u, w), 0, 0) := by
    intro u y ey hu
    have fu : ∀ j, j ≠ 8 → j ≠ 31 → u j = v j := fun j a b => by rw [hu j a]; exact f3 j a b
    have f4 := up (u := u) 9 y fu
    ((repeat' first | refine hP _ ?_ | fail); try dsimp only)
    refine ⟨by rw [ey]; exact bk_hat_bit hb, ?_⟩
    ((repeat' first | refine hP _ ?_ | fail); try dsimp only)
    refine m_anyHolds (l := 120) (hw f4) (by decide) (hf f4) (fun v5 h5 => ?_)
    have f5 := up (u := v5) 10 (b2i (lwH F 120 us)) (fun j a b => by rw [h5 j a]; exact f4 j a b)
    ((repeat' first | refine hP _ ?_ | fail); try dsimp only)
    refine ⟨b2i_bit _, ?_⟩
    ((repeat' first | refine hP _ ?_ | fail); try dsimp only)
    refine h _ f5 (fun j hj => ?_) ?_ ?_ ?_ ?_ ?_
    · rw [am_up_eq, if_neg (by omega), h5 _ (by decide), am_up_eq, if_neg (by omega), hu _ (by decide), am_up_eq, if_neg (by omega), h3 _ (by decide), am_up_eq, if_neg (by omega), h2 _ (by decide), am_up_eq, if_neg (by omega), h1 _ (by decide)]
    · rw [am_up_eq, if_neg (by omega), h5 _ (by decide), am_up_eq, if_neg (by omega), hu _ (by decide), am_up_eq, if_neg (by omega), h3 _ (by decide), am_up_eq, if_neg (by omega), h2 _ (by decide), am_up_eq, if_pos ⟨rfl, rfl⟩]
    · rw [am_up_eq, if_neg (by omega), h5 _ (by decide), am_up_eq, if_neg (by omega), hu _ (by decide), am_up_eq, if_neg (by omega), h3 _ (by decide), am_up_eq, if_pos ⟨rfl, rfl⟩]
    · rw [am_up_eq, if_neg (by omega), h5 _ (by decide), am_up_eq, if_neg (by omega), hu _ (by decide), am_up_eq, if_pos ⟨rfl, rfl⟩]
    · rw [am_up_eq, if_neg (by omega), h5 _ (by decide), am_up_eq, if_pos ⟨rfl, rfl⟩, ey]
    · rw [am_up_eq, if_pos ⟨rfl, rfl⟩]
  unfold bk_hat at fin
  ((repeat' first | refine hP _ ?_ | fail); try dsimp only)
  cases hS : lwS 104 us with
  | true =>
    rw [hS] at fin
    refine ⟨fun c => absurd c (by decide), fun _ => ?_⟩
    ((repeat' first | refine hP _ ?_ | fail); try dsimp only)
    refine m_anyHolds (l := 104) (hw f3) (by decide) (hf f3) (fun v4 h4 => ?_)
    ((repeat' first | refine hP _ ?_ | fail); try dsimp only)
    cases hH : lwH F 104 us with
    | true =>
      rw [hH] at fin
      refine ⟨fun _ => ?_, fun c => absurd c (by decide)⟩
      ((iterate 2 refine hP _ ?_); try dsimp only)
      exact fin v4 0 rfl h4
    | false =>
      rw [hH] at fin
      refine ⟨fun c => absurd rfl c, fun _ => ?_⟩
      ((iterate 2 refine hP _ ?_); try dsimp only)
      exact fin v4 1 rfl h4
  | false =>
    rw [hS] at fin
    refine ⟨fun _ => ?_, fun c => absurd rfl c⟩
    ((iterate 2 refine hP _ ?_); try dsimp only)
    refine fin _ _ ?_ (fun _ _ => rfl)
    dsimp only
    rw [am_up_eq, if_neg (by omega), h3 _ (by decide), am_up_eq, if_neg (by omega), h2 _ (by decide), am_up_eq, if_neg (by omega), h1 _ (by decide)]
    rfl
set_option maxRecDepth 100000 in
set_option maxHeartbeats 4000000 in
theorem m_ask_32 (hl : lw_is v us z) (hF : ∀ a, a < 10 → v 9 a = F a) (hb : iv_bit (v 32 3)) (h : ∀ v' : am_V, (∀ j, j ≠ 8 → j ≠ 32 → v' j = v j) → (∀ j, j < 6 → v' 32 j = v 32 j) → v' 32 6 = lwA F 102 9 us → v' 32 7 = lwA F 100 90 us → v' 32 8 = lwA F 117 90 us → v' 32 9 = bk_hat us F (v 32 3) → v' 32 10 = b2i (lwH F 120 us) → Q none (am_sh, v', w)) : am_run K I am_m (d + 4) 19 [.ref 32, .ref 3] (am_sh, v, w) 0 0 Q := by
  have hx8 : 32 ≠ 8 ∧ 32 ≠ 9 ∧ 32 ≠ 62 ∧ ∀ k, k ∈ [3, 4, 5, 6, 7, 73, 74, 75, 76, 77] → k ≠ 32 ∧ k ≠ 8 := by
    decide
  have hw : ∀ {u : am_V}, (∀ j, j ≠ 8 → j ≠ 32 → u j = v j) → lw_is u us z := fun hu => lw_is_of hl (fun k hk => hu k (hx8.2.2.2 k hk).2 (hx8.2.2.2 k hk).1) (by rw [hu 62 (by decide) (Ne.symm hx8.2.2.1)])
  have hf : ∀ {u : am_V}, (∀ j, j ≠ 8 → j ≠ 32 → u j = v j) → ∀ a, a < 10 → u 9 a = F a := fun hu a ha => by rw [hu 9 (by decide) (Ne.symm hx8.2.1)]; exact hF a ha
  have up : ∀ {u : am_V} (j : Nat) (y : Int32), (∀ j, j ≠ 8 → j ≠ 32 → u j = v j) → ∀ i, i ≠ 8 → i ≠ 32 → am_up u 32 j y i = v i := fun j y hu i h8 hi => by rw [am_up_ne _ _ _ hi]; exact hu i h8 hi
  refine en_X1_ask rfl ?_
  intro P hP
  ((repeat' first | refine hP _ ?_ | fail); try dsimp only)
  refine m_amountOf (l := 102) hl (Or.inl rfl) hF (by decide) (fun v1 h1 => ?_)
  have f1 := up (u := v1) 6 (lwA F 102 9 us) (fun j a _ => h1 j a)
  ((repeat' first | refine hP _ ?_ | fail); try dsimp only)
  refine m_amountOf (l := 100) (hw f1) (Or.inr (Or.inl rfl)) (hf f1) (by decide) (fun v2 h2 => ?_)
  have f2 := up (u := v2) 7 (lwA F 100 90 us) (fun j a b => by rw [h2 j a]; exact f1 j a b)
  ((repeat' first | refine hP _ ?_ | fail); try dsimp only)
  refine m_amountOf (l := 117) (hw f2) (Or.inr (Or.inr rfl)) (hf f2) (by decide) (fun v3 h3 => ?_)
  have f3 := up (u := v3) 8 (lwA F 117 90 us) (fun j a b => by rw [h3 j a]; exact f2 j a b)
  ((repeat' first | refine hP _ ?_ | fail); try dsimp only)
  refine m_speaksOf (l := 104) (hw f3) (by decide) ?_
  -- behind the hat: the last question
  have fin : ∀ (u : am_V) (y : Int32), y = bk_hat us F (v 32 3) → (∀ j, j ≠ 8 → u j = am_up v3 32 8 (lwA F 117 90 us) j) → P (cd_X1_ask.drop 33, [some (.ref 32), some (.ref 3)], [.int y, .ref 32], (am_sh, u, w), 0, 0) := by
    intro u y ey hu
    have fu : ∀ j, j ≠ 8 → j ≠ 32 → u j = v j := fun j a b => by rw [hu j a]; exact f3 j a b
    have f4 := up (u := u) 9 y fu
    ((repeat' first | refine hP _ ?_ | fail); try dsimp only)
    refine ⟨by rw [ey]; exact bk_hat_bit hb, ?_⟩
    ((repeat' first | refine hP _ ?_ | fail); try dsimp only)
    refine m_anyHolds (l := 120) (hw f4) (by decide) (hf f4) (fun v5 h5 => ?_)
    have f5 := up (u := v5) 10 (b2i (lwH F 120 us)) (fun j a b => by rw [h5 j a]; exact f4 j a b)
    ((repeat' first | refine hP _ ?_ | fail); try dsimp only)
    refine ⟨b2i_bit _, ?_⟩
    ((repeat' first | refine hP _ ?_ | fail); try dsimp only)
    refine h _ f5 (fun j hj => ?_) ?_ ?_ ?_ ?_ ?_
    · rw [am_up_eq, if_neg (by omega), h5 _ (by decide), am_up_eq, if_neg (by omega), hu _ (by decide), am_up_eq, if_neg (by omega), h3 _ (by decide), am_up_eq, if_neg (by omega), h2 _ (by decide), am_up_eq, if_neg (by omega), h1 _ (by decide)]
    · rw [am_up_eq, if_neg (by omega), h5 _ (by decide), am_up_eq, if_neg (by omega), hu _ (by decide), am_up_eq, if_neg (by omega), h3 _ (by decide), am_up_eq, if_neg (by omega), h2 _ (by decide), am_up_eq, if_pos ⟨rfl, rfl⟩]
    · rw [am_up_eq, if_neg (by omega), h5 _ (by decide), am_up_eq, if_neg (by omega), hu _ (by decide), am_up_eq, if_neg (by omega), h3 _ (by decide), am_up_eq, if_pos ⟨rfl, rfl⟩]
    · rw [am_up_eq, if_neg (by omega), h5 _ (by decide), am_up_eq, if_neg (by omega), hu _ (by decide), am_up_eq, if_pos ⟨rfl, rfl⟩]
    · rw [am_up_eq, if_neg (by omega), h5 _ (by decide), am_up_eq, if_pos ⟨rfl, rfl⟩, ey]
    · rw [am_up_eq, if_pos ⟨rfl, rfl⟩]
  unfold bk_hat at fin
  ((repeat' first | refine hP _ ?_ | fail); try dsimp only)
  cases hS : lwS 104 us with
  | true =>
    rw [hS] at fin
    refine ⟨fun c => absurd c (by decide), fun _ => ?_⟩
    ((repeat' first | refine hP _ ?_ | fail); try dsimp only)
    refine m_anyHolds (l := 104) (hw f3) (by decide) (hf f3) (fun v4 h4 => ?_)
    ((repeat' first | refine hP _ ?_ | fail); try dsimp only)
    cases hH : lwH F 104 us with
    | true =>
      rw [hH] at fin
      refine ⟨fun _ => ?_, fun c => absurd c (by decide)⟩
      ((iterate 2 refine hP _ ?_); try dsimp only)
      exact fin v4 0 rfl h4
    | false =>
      rw [hH] at fin
      refine ⟨fun c => absurd rfl c, fun _ => ?_⟩
      ((iterate 2 refine hP _ ?_); try dsimp only)
      exact fin v4 1 rfl h4
  | false =>
    rw [hS] at fin
    refine ⟨fun _ => ?_, fun c => absurd rfl c⟩
    ((iterate 2 refine hP _ ?_); try dsimp only)
    refine fin _ _ ?_ (fun _ _ => rfl)
    dsimp only
    rw [am_up_eq, if_neg (by omega), h3 _ (by decide), am_up_eq, if_neg (by omega), h2 _ (by decide), am_up_eq, if_neg (by omega), h1 _ (by decide)]
    rfl
set_option maxRecDepth 100000 in
set_option maxHeartbeats 4000000 in
theorem m_ask_34 (hl : lw_is v us z) (hF : ∀ a, a < 10 → v 9 a = F a) (hb : iv_bit (v 34 3)) (h : ∀ v' : am_V, (∀ j, j ≠ 8 → j ≠ 34 → v' j = v j) → (∀ j, j < 6 → v' 34 j = v 34 j) → v' 34 6 = lwA F 102 9 us → v' 34 7 = lwA F 100 90 us → v' 34 8 = lwA F 117 90 us → v' 34 9 = bk_hat us F (v 34 3) → v' 34 10 = b2i (lwH F 120 us) → Q none (am_sh, v', w)) : am_run K I am_m (d + 4) 19 [.ref 34, .ref 3] (am_sh, v, w) 0 0 Q := by
  have hx8 : 34 ≠ 8 ∧ 34 ≠ 9 ∧ 34 ≠ 62 ∧ ∀ k, k ∈ [3, 4, 5, 6, 7, 73, 74, 75, 76, 77] → k ≠ 34 ∧ k ≠ 8 := by
    decide
  have hw : ∀ {u : am_V}, (∀ j, j ≠ 8 → j ≠ 34 → u j = v j) → lw_is u us z := fun hu => lw_is_of hl (fun k hk => hu k (hx8.2.2.2 k hk).2 (hx8.2.2.2 k hk).1) (by rw [hu 62 (by decide) (Ne.symm hx8.2.2.1)])
  have hf : ∀ {u : am_V}, (∀ j, j ≠ 8 → j ≠ 34 → u j = v j) → ∀ a, a < 10 → u 9 a = F a := fun hu a ha => by rw [hu 9 (by decide) (Ne.symm hx8.2.1)]; exact hF a ha
  have up : ∀ {u : am_V} (j : Nat) (y : Int32), (∀ j, j ≠ 8 → j ≠ 34 → u j = v j) → ∀ i, i ≠ 8 → i ≠ 34 → am_up u 34 j y i = v i := fun j y hu i h8 hi => by rw [am_up_ne _ _ _ hi]; exact hu i h8 hi
  refine en_X1_ask rfl ?_
  intro P hP
  ((repeat' first | refine hP _ ?_ | fail); try dsimp only)
  refine m_amountOf (l := 102) hl (Or.inl rfl) hF (by decide) (fun v1 h1 => ?_)
  have f1 := up (u := v1) 6 (lwA F 102 9 us) (fun j a _ => h1 j a)
  ((repeat' first | refine hP _ ?_ | fail); try dsimp only)
  refine m_amountOf (l := 100) (hw f1) (Or.inr (Or.inl rfl)) (hf f1) (by decide) (fun v2 h2 => ?_)
  have f2 := up (u := v2) 7 (lwA F 100 90 us) (fun j a b => by rw [h2 j a]; exact f1 j a b)
  ((repeat' first | refine hP _ ?_ | fail); try dsimp only)
  refine m_amountOf (l := 117) (hw f2) (Or.inr (Or.inr rfl)) (hf f2) (by decide) (fun v3 h3 => ?_)
  have f3 := up (u := v3) 8 (lwA F 117 90 us) (fun j a b => by rw [h3 j a]; exact f2 j a b)
  ((repeat' first | refine hP _ ?_ | fail); try dsimp only)
  refine m_speaksOf (l := 104) (hw f3) (by decide) ?_
  -- behind the hat: the last question
  have fin : ∀ (u : am_V) (y : Int32), y = bk_hat us F (v 34 3) → (∀ j, j ≠ 8 → u j = am_up v3 34 8 (lwA F 117 90 us) j) → P (cd_X1_ask.drop 33, [some (.ref 34), some (.ref 3)], [.int y, .ref 34], (am_sh, u, w), 0, 0) := by
    intro u y ey hu
    have fu : ∀ j, j ≠ 8 → j ≠ 34 → u j = v j := fun j a b => by rw [hu j a]; exact f3 j a b
    have f4 := up (u := u) 9 y fu
    ((repeat' first | refine hP _ ?_ | fail); try dsimp only)
    refine ⟨by rw [ey]; exact bk_hat_bit hb, ?_⟩
    ((repeat' first | refine hP _ ?_ | fail); try dsimp only)
    refine m_anyHolds (l := 120) (hw f4) (by decide) (hf f4) (fun v5 h5 => ?_)
    have f5 := up (u := v5) 10 (b2i (lwH F 120 us)) (fun j a b => by rw [h5 j a]; exact f4 j a b)
    ((repeat' first | refine hP _ ?_ | fail); try dsimp only)
    refine ⟨b2i_bit _, ?_⟩
    ((repeat' first | refine hP _ ?_ | fail); try dsimp only)
    refine h _ f5 (fun j hj => ?_) ?_ ?_ ?_ ?_ ?_
    · rw [am_up_eq, if_neg (by omega), h5 _ (by decide), am_up_eq, if_neg (by omega), hu _ (by decide), am_up_eq, if_neg (by omega), h3 _ (by decide), am_up_eq, if_neg (by omega), h2 _ (by decide), am_up_eq, if_neg (by omega), h1 _ (by decide)]
    · rw [am_up_eq, if_neg (by omega), h5 _ (by decide), am_up_eq, if_neg (by omega), hu _ (by decide), am_up_eq, if_neg (by omega), h3 _ (by decide), am_up_eq, if_neg (by omega), h2 _ (by decide), am_up_eq, if_pos ⟨rfl, rfl⟩]
    · rw [am_up_eq, if_neg (by omega), h5 _ (by decide), am_up_eq, if_neg (by omega), hu _ (by decide), am_up_eq, if_neg (by omega), h3 _ (by decide), am_up_eq, if_pos ⟨rfl, rfl⟩]
    · rw [am_up_eq, if_neg (by omega), h5 _ (by decide), am_up_eq, if_neg (by omega), hu _ (by decide), am_up_eq, if_pos ⟨rfl, rfl⟩]
    · rw [am_up_eq, if_neg (by omega), h5 _ (by decide), am_up_eq, if_pos ⟨rfl, rfl⟩, ey]
    · rw [am_up_eq, if_pos ⟨rfl, rfl⟩]
  unfold bk_hat at fin
  ((repeat' first | refine hP _ ?_ | fail); try dsimp only)
  cases hS : lwS 104 us with
  | true =>
    rw [hS] at fin
    refine ⟨fun c => absurd c (by decide), fun _ => ?_⟩
    ((repeat' first | refine hP _ ?_ | fail); try dsimp only)
    refine m_anyHolds (l := 104) (hw f3) (by decide) (hf f3) (fun v4 h4 => ?_)
    ((repeat' first | refine hP _ ?_ | fail); try dsimp only)
    cases hH : lwH F 104 us with
    | true =>
      rw [hH] at fin
      refine ⟨fun _ => ?_, fun c => absurd c (by decide)⟩
      ((iterate 2 refine hP _ ?_); try dsimp only)
      exact fin v4 0 rfl h4
    | false =>
      rw [hH] at fin
      refine ⟨fun c => absurd rfl c, fun _ => ?_⟩
      ((iterate 2 refine hP _ ?_); try dsimp only)
      exact fin v4 1 rfl h4
  | false =>
    rw [hS] at fin
    refine ⟨fun _ => ?_, fun c => absurd rfl c⟩
    ((iterate 2 refine hP _ ?_); try dsimp only)
    refine fin _ _ ?_ (fun _ _ => rfl)
    dsimp only
    rw [am_up_eq, if_neg (by omega), h3 _ (by decide), am_up_eq, if_neg (by omega), h2 _ (by decide), am_up_eq, if_neg (by omega), h1 _ (by decide)]
    rfl
set_option maxRecDepth 100000 in
set_option maxHeartbeats 4000000 in
theorem m_ask_35 (hl : lw_is v us z) (hF : ∀ a, a < 10 → v 9 a = F a) (hb : iv_bit (v 35 3)) (h : ∀ v' : am_V, (∀ j, j ≠ 8 → j ≠ 35 → v' j = v j) → (∀ j, j < 6 → v' 35 j = v 35 j) → v' 35 6 = lwA F 102 9 us → v' 35 7 = lwA F 100 90 us → v' 35 8 = lwA F 117 90 us → v' 35 9 = bk_hat us F (v 35 3) → v' 35 10 = b2i (lwH F 120 us) → Q none (am_sh, v', w)) : am_run K I am_m (d + 4) 19 [.ref 35, .ref 3] (am_sh, v, w) 0 0 Q := by
  have hx8 : 35 ≠ 8 ∧ 35 ≠ 9 ∧ 35 ≠ 62 ∧ ∀ k, k ∈ [3, 4, 5, 6, 7, 73, 74, 75, 76, 77] → k ≠ 35 ∧ k ≠ 8 := by
    decide
  have hw : ∀ {u : am_V}, (∀ j, j ≠ 8 → j ≠ 35 → u j = v j) → lw_is u us z := fun hu => lw_is_of hl (fun k hk => hu k (hx8.2.2.2 k hk).2 (hx8.2.2.2 k hk).1) (by rw [hu 62 (by decide) (Ne.symm hx8.2.2.1)])
  have hf : ∀ {u : am_V}, (∀ j, j ≠ 8 → j ≠ 35 → u j = v j) → ∀ a, a < 10 → u 9 a = F a := fun hu a ha => by rw [hu 9 (by decide) (Ne.symm hx8.2.1)]; exact hF a ha
  have up : ∀ {u : am_V} (j : Nat) (y : Int32), (∀ j, j ≠ 8 → j ≠ 35 → u j = v j) → ∀ i, i ≠ 8 → i ≠ 35 → am_up u 35 j y i = v i := fun j y hu i h8 hi => by rw [am_up_ne _ _ _ hi]; exact hu i h8 hi
  refine en_X1_ask rfl ?_
  intro P hP
  ((repeat' first | refine hP _ ?_ | fail); try dsimp only)
  refine m_amountOf (l := 102) hl (Or.inl rfl) hF (by decide) (fun v1 h1 => ?_)
  have f1 := up (u := v1) 6 (lwA F 102 9 us) (fun j a _ => h1 j a)
  ((repeat' first | refine hP _ ?_ | fail); try dsimp only)
  refine m_amountOf (l := 100) (hw f1) (Or.inr (Or.inl rfl)) (hf f1) (by decide) (fun v2 h2 => ?_)
  have f2 := up (u := v2) 7 (lwA F 100 90 us) (fun j a b => by rw [h2 j a]; exact f1 j a b)
  ((repeat' first | refine hP _ ?_ | fail); try dsimp only)
  refine m_amountOf (l := 117) (hw f2) (Or.inr (Or.inr rfl)) (hf f2) (by decide) (fun v3 h3 => ?_)
  have f3 := up (u := v3) 8 (lwA F 117 90 us) (fun j a b => by rw [h3 j a]; exact f2 j a b)
  ((repeat' first | refine hP _ ?_ | fail); try dsimp only)
  refine m_speaksOf (l := 104) (hw f3) (by decide) ?_
  -- behind the hat: the last question
  have fin : ∀ (u : am_V) (y : Int32), y = bk_hat us F (v 35 3) → (∀ j, j ≠ 8 → u j = am_up v3 35 8 (lwA F 117 90 us) j) → P (cd_X1_ask.drop 33, [some (.ref 35), some (.ref 3)], [.int y, .ref 35], (am_sh, u, w), 0, 0) := by
    intro u y ey hu
    have fu : ∀ j, j ≠ 8 → j ≠ 35 → u j = v j := fun j a b => by rw [hu j a]; exact f3 j a b
    have f4 := up (u := u) 9 y fu
    ((repeat' first | refine hP _ ?_ | fail); try dsimp only)
    refine ⟨by rw [ey]; exact bk_hat_bit hb, ?_⟩
    ((repeat' first | refine hP _ ?_ | fail); try dsimp only)
    refine m_anyHolds (l := 120) (hw f4) (by decide) (hf f4) (fun v5 h5 => ?_)
    have f5 := up (u := v5) 10 (b2i (lwH F 120 us)) (fun j a b => by rw [h5 j a]; exact f4 j a b)
    ((repeat' first | refine hP _ ?_ | fail); try dsimp only)
    refine ⟨b2i_bit _, ?_⟩
    ((repeat' first | refine hP _ ?_ | fail); try dsimp only)
    refine h _ f5 (fun j hj => ?_) ?_ ?_ ?_ ?_ ?_
    · rw [am_up_eq, if_neg (by omega), h5 _ (by decide), am_up_eq, if_neg (by omega), hu _ (by decide), am_up_eq, if_neg (by omega), h3 _ (by decide), am_up_eq, if_neg (by omega), h2 _ (by decide), am_up_eq, if_neg (by omega), h1 _ (by decide)]
    · rw [am_up_eq, if_neg (by omega), h5 _ (by decide), am_up_eq, if_neg (by omega), hu _ (by decide), am_up_eq, if_neg (by omega), h3 _ (by decide), am_up_eq, if_neg (by omega), h2 _ (by decide), am_up_eq, if_pos ⟨rfl, rfl⟩]
    · rw [am_up_eq, if_neg (by omega), h5 _ (by decide), am_up_eq, if_neg (by omega), hu _ (by decide), am_up_eq, if_neg (by omega), h3 _ (by decide), am_up_eq, if_pos ⟨rfl, rfl⟩]
    · rw [am_up_eq, if_neg (by omega), h5 _ (by decide), am_up_eq, if_neg (by omega), hu _ (by decide), am_up_eq, if_pos ⟨rfl, rfl⟩]
    · rw [am_up_eq, if_neg (by omega), h5 _ (by decide), am_up_eq, if_pos ⟨rfl, rfl⟩, ey]
    · rw [am_up_eq, if_pos ⟨rfl, rfl⟩]
  unfold bk_hat at fin
  ((repeat' first | refine hP _ ?_ | fail); try dsimp only)
  cases hS : lwS 104 us with
  | true =>
    rw [hS] at fin
    refine ⟨fun c => absurd c (by decide), fun _ => ?_⟩
    ((repeat' first | refine hP _ ?_ | fail); try dsimp only)
    refine m_anyHolds (l := 104) (hw f3) (by decide) (hf f3) (fun v4 h4 => ?_)
    ((repeat' first | refine hP _ ?_ | fail); try dsimp only)
    cases hH : lwH F 104 us with
    | true =>
      rw [hH] at fin
      refine ⟨fun _ => ?_, fun c => absurd c (by decide)⟩
      ((iterate 2 refine hP _ ?_); try dsimp only)
      exact fin v4 0 rfl h4
    | false =>
      rw [hH] at fin
      refine ⟨fun c => absurd rfl c, fun _ => ?_⟩
      ((iterate 2 refine hP _ ?_); try dsimp only)
      exact fin v4 1 rfl h4
  | false =>
    rw [hS] at fin
    refine ⟨fun _ => ?_, fun c => absurd rfl c⟩
    ((iterate 2 refine hP _ ?_); try dsimp only)
    refine fin _ _ ?_ (fun _ _ => rfl)
    dsimp only
    rw [am_up_eq, if_neg (by omega), h3 _ (by decide), am_up_eq, if_neg (by omega), h2 _ (by decide), am_up_eq, if_neg (by omega), h1 _ (by decide)]
    rfl
theorem m_ask {x : Nat} (hx : kg4 x) (hl : lw_is v us z) (hF : ∀ a, a < 10 → v 9 a = F a) (hb : iv_bit (v x 3)) (h : ∀ v' : am_V, (∀ j, j ≠ 8 → j ≠ x → v' j = v j) → (∀ j, j < 6 → v' x j = v x j) → v' x 6 = lwA F 102 9 us → v' x 7 = lwA F 100 90 us → v' x 8 = lwA F 117 90 us → v' x 9 = bk_hat us F (v x 3) → v' x 10 = b2i (lwH F 120 us) → Q none (am_sh, v', w)) : am_run K I am_m (d + 4) 19 [.ref x, .ref 3] (am_sh, v, w) 0 0 Q := by
  rcases hx with rfl | rfl | rfl | rfl
  · exact m_ask_31 hl hF hb h
  · exact m_ask_32 hl hF hb h
  · exact m_ask_34 hl hF hb h
  · exact m_ask_35 hl hF hb h
end M64
