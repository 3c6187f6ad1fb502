/-! ===== THE LAW's code, reckoned: the class ===== -/
/-- a stack in a row, its top first -/
def stk (f : Nat → Int32) : List Int32 → Prop
  | [] => True
  | x :: r => f r.length = x ∧ stk f r
theorem stk_up {u : am_V} {k : Nat} {x : Int32} {j : Nat} : ∀ {s : List Int32}, stk (u k) s → s.length ≤ j → stk (am_up u k j x k) s
  | [], _, _ => trivial
  | y :: r, h, hj => ⟨by
      rw [am_up_eq, if_neg (fun z => by
        have z2 := z.2
        rw [List.length_cons] at hj
        omega)]
      exact h.1, stk_up h.2 (by rw [List.length_cons] at hj; omega)⟩
theorem stk_push {u : am_V} {k : Nat} {x : Int32} {s : List Int32} (h : stk (u k) s) : stk (am_up u k s.length x k) (x :: s) := ⟨by rw [am_up_eq, if_pos ⟨rfl, rfl⟩], stk_up h (Nat.le_refl _)⟩
theorem lc_sg_lt (k : Nat) : lc_sg k < 256 := by
  unfold lc_sg
  split <;> decide
theorem lc_n59 (k : Nat) : ¬ nI (lc_sg k) = 59 := by
  unfold lc_sg
  split <;> decide
theorem lc_and {t g : Nat} (ht : t < 2000000) (hg : g < 256) : nI (t * 256 + g) &&& 255 = nI g := by
  rw [pk_andN (by omega) 8 (by decide)]
  congr 1
  show (t * 256 + g) % 256 = g
  omega
theorem lc_shr {t g : Nat} (ht : t < 2000000) (hg : g < 256) : nI (t * 256 + g) >>> (8 &&& 31) = nI t := by
  rw [pk_shrN (by omega) _ 8 (by decide)]
  congr 1
  show (t * 256 + g) / 256 = t
  omega
theorem lc_op8 {k : Nat} (h1 : 2 ≤ k) (h2 : k ≤ 9) : k = 2 ∨ k = 3 ∨ k = 4 ∨ k = 5 ∨ k = 6 ∨ k = 7 ∨ k = 8 ∨ k = 9 := by omega
theorem lc_mx {m a : Nat} (h : 1 ≤ a) (hb : m + a < 2 ^ 31) : (if nI m < nI (m + a) - 1 then nI (m + a) - 1 else nI m) + 1 = nI (m + a) := by
  obtain ⟨a, rfl⟩ : ∃ a', a = a' + 1 := ⟨a - 1, by omega⟩
  rw [show m + (a + 1) = m + a + 1 from rfl, nI_pred]
  by_cases q : nI m < nI (m + a)
  · rw [if_pos q, nI_1]
  · have h0 : a = 0 := by
      rcases Nat.eq_zero_or_pos a with z | z
      · exact z
      · exact absurd (nI_lt (show m < m + a by omega) (by omega)) q
    rw [if_neg q, nI_1, h0]
section M61
variable {K : am_K} {I : am_I} {d : Nat} {v : am_V} {w : am_X} {sh : List am_S} {Q : Option Value → am_H → Prop}
set_option maxRecDepth 100000 in
set_option maxHeartbeats 4000000 in
theorem m_seenAt {a : Nat} (ha : a < 10) (h : Q (some (.int (v 9 a))) (am_sh, v, w)) : am_run K I am_m (d + 1) 46 [.ref 3, .int (nI a)] (am_sh, v, w) 0 0 Q := by
  refine en_X3_seenAt rfl ?_
  intro P hP
  ((repeat' first | refine hP _ ?_ | fail); try dsimp only)
  refine ⟨fun z => absurd z (nI_pos (by omega)), fun _ => ?_⟩
  ((repeat' first | refine hP _ ?_ | fail); try dsimp only)
  refine ⟨fun z => absurd z (nI_ge (b := 10) ha (by omega)), fun _ => ?_⟩
  ((repeat' first | refine hP _ ?_ | fail); try dsimp only)
  refine ⟨vp_in_nI ha (by omega), ?_⟩
  ((repeat' first | refine hP _ ?_ | fail); try dsimp only)
  rw [nI_clamp (by omega)]
  exact h
set_option maxRecDepth 100000 in
set_option maxHeartbeats 4000000 in
theorem m_X3_join {k : Nat} (h1 : 2 ≤ k) (h2 : k ≤ 9) {x y : Int32} (hy : (k = 5 ∨ k = 6) → ¬ y = 0) (h : Q (some (.int (lc_join k x y))) (sh, v, w)) : am_run K I am_m (d + 1) 48 [.int x, .int (nI (lc_sg k)), .int y] (sh, v, w) 0 0 Q := by
  refine en_X3_join rfl ?_
  intro P hP
  rcases lc_op8 h1 h2 with rfl | rfl | rfl | rfl | rfl | rfl | rfl | rfl
  · ((repeat' first | refine hP _ ?_ | refine ⟨fun c1 => absurd c1 (by decide), fun _ => ?_⟩ | refine ⟨fun _ => ?_, fun c1 => absurd c1 (by decide)⟩ | refine ⟨am_vin rfl, ?_⟩ | refine ⟨fun c1 => ?_, fun c1 => ?_⟩ | refine ⟨Or.inr rfl, ?_⟩ | refine ⟨Or.inl rfl, ?_⟩ | fail); all_goals (try dsimp only at *))
    exact h
  · ((repeat' first | refine hP _ ?_ | refine ⟨fun c1 => absurd c1 (by decide), fun _ => ?_⟩ | refine ⟨fun _ => ?_, fun c1 => absurd c1 (by decide)⟩ | refine ⟨am_vin rfl, ?_⟩ | refine ⟨fun c1 => ?_, fun c1 => ?_⟩ | refine ⟨Or.inr rfl, ?_⟩ | refine ⟨Or.inl rfl, ?_⟩ | fail); all_goals (try dsimp only at *))
    exact h
  · ((repeat' first | refine hP _ ?_ | refine ⟨fun c1 => absurd c1 (by decide), fun _ => ?_⟩ | refine ⟨fun _ => ?_, fun c1 => absurd c1 (by decide)⟩ | refine ⟨am_vin rfl, ?_⟩ | refine ⟨fun c1 => ?_, fun c1 => ?_⟩ | refine ⟨Or.inr rfl, ?_⟩ | refine ⟨Or.inl rfl, ?_⟩ | fail); all_goals (try dsimp only at *))
    exact h
  · have hy0 := hy (Or.inl rfl)
    ((repeat' first | refine hP _ ?_ | fail); try dsimp only)
    repeat' first | refine ⟨fun c1 => absurd c1 (by decide), fun _ => ?_⟩ | fail
    refine ⟨fun _ => ?_, fun c1 => absurd rfl c1⟩
    ((repeat' first | refine hP _ ?_ | fail); try dsimp only)
    refine ⟨fun _ => ?_, fun c1 => absurd c1 hy0⟩
    ((repeat' first | refine hP _ ?_ | fail); try dsimp only)
    refine ⟨hy0, ?_⟩
    ((repeat' first | refine hP _ ?_ | fail); try dsimp only)
    exact h
  · have hy0 := hy (Or.inr rfl)
    ((repeat' first | refine hP _ ?_ | fail); try dsimp only)
    repeat' first | refine ⟨fun c1 => absurd c1 (by decide), fun _ => ?_⟩ | fail
    refine ⟨fun _ => ?_, fun c1 => absurd rfl c1⟩
    ((repeat' first | refine hP _ ?_ | fail); try dsimp only)
    refine ⟨fun _ => ?_, fun c1 => absurd c1 hy0⟩
    ((repeat' first | refine hP _ ?_ | fail); try dsimp only)
    refine ⟨hy0, ?_⟩
    ((repeat' first | refine hP _ ?_ | fail); try dsimp only)
    exact h
  · unfold lc_join at h
    ((repeat' first | refine hP _ ?_ | refine ⟨fun c1 => absurd c1 (by decide), fun _ => ?_⟩ | refine ⟨fun _ => ?_, fun c1 => absurd c1 (by decide)⟩ | refine ⟨am_vin rfl, ?_⟩ | refine ⟨fun c1 => ?_, fun c1 => ?_⟩ | refine ⟨Or.inr rfl, ?_⟩ | refine ⟨Or.inl rfl, ?_⟩ | fail); all_goals (try dsimp only at *))
    · rw [if_neg (Int32.not_lt.mpr c1)] at h
      exact h
    · rw [if_pos (Int32.not_le.mp c1)] at h
      exact h
  · unfold lc_join at h
    ((repeat' first | refine hP _ ?_ | refine ⟨fun c1 => absurd c1 (by decide), fun _ => ?_⟩ | refine ⟨fun _ => ?_, fun c1 => absurd c1 (by decide)⟩ | refine ⟨am_vin rfl, ?_⟩ | refine ⟨fun c1 => ?_, fun c1 => ?_⟩ | refine ⟨Or.inr rfl, ?_⟩ | refine ⟨Or.inl rfl, ?_⟩ | fail); all_goals (try dsimp only at *))
    · rw [if_neg (Int32.not_lt.mpr c1)] at h
      exact h
    · rw [if_pos (Int32.not_le.mp c1)] at h
      exact h
  · unfold lc_join at h
    ((repeat' first | refine hP _ ?_ | refine ⟨fun c1 => absurd c1 (by decide), fun _ => ?_⟩ | refine ⟨fun _ => ?_, fun c1 => absurd c1 (by decide)⟩ | refine ⟨am_vin rfl, ?_⟩ | refine ⟨fun c1 => ?_, fun c1 => ?_⟩ | refine ⟨Or.inr rfl, ?_⟩ | refine ⟨Or.inl rfl, ?_⟩ | fail); all_goals (try dsimp only at *))
    · rw [if_neg c1] at h
      exact h
    · rw [if_pos c1] at h
      exact h
set_option maxRecDepth 100000 in
set_option maxHeartbeats 4000000 in
theorem m_X3_refused {k : Nat} (h1 : 2 ≤ k) (h2 : k ≤ 9) {y : Int32} (h : Q (some (.int (if (k = 5 ∨ k = 6) ∧ y = 0 then 1 else 0))) (sh, v, w)) : am_run K I am_m (d + 1) 47 [.int (nI (lc_sg k)), .int y] (sh, v, w) 0 0 Q := by
  refine en_X3_isRefused rfl ?_
  intro P hP
  by_cases hy : y = 0
  · subst hy
    rcases lc_op8 h1 h2 with rfl | rfl | rfl | rfl | rfl | rfl | rfl | rfl
    all_goals
      ((repeat' first | refine hP _ ?_ | refine ⟨fun c1 => absurd c1 (by decide), fun _ => ?_⟩ | refine ⟨fun _ => ?_, fun c1 => absurd c1 (by decide)⟩ | refine ⟨am_vin rfl, ?_⟩ | refine ⟨fun c1 => ?_, fun c1 => ?_⟩ | refine ⟨Or.inr rfl, ?_⟩ | refine ⟨Or.inl rfl, ?_⟩ | fail); all_goals (try dsimp only at *))
      exact h
  · rw [if_neg (fun z => hy z.2)] at h
    ((repeat' first | refine hP _ ?_ | fail); try dsimp only)
    refine ⟨fun _ => ?_, fun z => absurd z hy⟩
    ((repeat' first | refine hP _ ?_ | refine ⟨fun c1 => absurd c1 (by decide), fun _ => ?_⟩ | refine ⟨fun _ => ?_, fun c1 => absurd c1 (by decide)⟩ | refine ⟨am_vin rfl, ?_⟩ | refine ⟨fun c1 => ?_, fun c1 => ?_⟩ | refine ⟨Or.inr rfl, ?_⟩ | refine ⟨Or.inl rfl, ?_⟩ | fail); all_goals (try dsimp only at *))
    exact h
set_option maxRecDepth 100000 in
set_option maxHeartbeats 4000000 in
theorem m_reckonC {z b : Nat} {c : List lc_O} {F : Nat → Int32} (hz : v 3 6 = nI z) (hz2 : z ≤ 240) (hs : lc_sC (v 4) z b c) (hF : ∀ a, a < 10 → v 9 a = F a) {R : Int32} (hR : lc_val F c = some R) (h : ∀ v' : am_V, (∀ k, k ≠ 8 → v' k = v k) → Q (some (.int R)) (am_sh, v', w)) : am_run K I am_m (d + 2) 45 [.ref 3, .int (nI b)] (am_sh, v, w) 0 0 Q := by
  refine en_X3_reckon rfl ?_
  intro P hP
  obtain ⟨hs1, hs2, hs3⟩ := hs
  have key : ∀ (n i t : Nat) (s : List Int32) (u : am_V) (l4 l5 : Option Value), i ≤ c.length → s.length = t → t ≤ 32 → (∀ k, k ≠ 8 → u k = v k) → stk (u 8) s → lc_ev F c n i s = some R → P (cd_X3_reckon.drop 4, [some (.ref 3), some (.int (nI b)), some (.int (nI t)), some (.int (nI (b + i))), l4, l5], [], (am_sh, u, w), 0, 0) := by
    intro n
    induction n with
    | zero =>
      intro i t s u l4 l5 _ _ _ _ _ e
      exact absurd e (by simp [lc_ev])
    | succ n ih =>
      intro i t s u l4 l5 hi hst ht hu hk e
      have g4 : u 4 = v 4 := hu 4 (by decide)
      have g3 : u 3 = v 3 := hu 3 (by decide)
      have g9 : u 9 = v 9 := hu 9 (by decide)
      have hup : ∀ (j : Nat) (x : Int32) (k : Nat), k ≠ 8 → am_up u 8 j x k = v k := fun j x k hk => by rw [am_up_ne _ _ _ hk]; exact hu k hk
      unfold lc_ev at e
      ((repeat' first | refine hP _ ?_ | fail); try dsimp only)
      refine ⟨fun z => absurd z (nI_pos (by omega)), fun _ => ?_⟩
      ((repeat' first | refine hP _ ?_ | fail); try dsimp only)
      rw [g3, hz]
      refine ⟨fun z => absurd z (nI_ge (by omega) (by omega)), fun _ => ?_⟩
      ((repeat' first | refine hP _ ?_ | fail); try dsimp only)
      refine ⟨vp_in_nI (by omega) (by omega), ?_⟩
      ((repeat' first | refine hP _ ?_ | fail); try dsimp only)
      rw [nI_clamp (by omega), g4]
      cases hc : c[i]? with
      | none =>
        rw [hc] at e
        have hil : i = c.length := by
          have := List.getElem?_eq_none_iff.mp hc
          omega
        rw [hil, hs3]
        refine ⟨fun _ => ?_, fun z => absurd (by decide) z⟩
        match s, hst, hk, e with
        | [x], hst, hk, e =>
          have ht1 : t = 1 := hst.symm
          subst ht1
          have ex : x = R := Option.some.inj e
          ((repeat' first | refine hP _ ?_ | fail); try dsimp only)
          refine ⟨fun z => absurd z (by decide), fun _ => ?_⟩
          ((repeat' first | refine hP _ ?_ | fail); try dsimp only)
          refine ⟨am_vin rfl, ?_⟩
          ((repeat' first | refine hP _ ?_ | fail); try dsimp only)
          rw [show Int32.toNatClampNeg (nI 1 - 1) = 0 from rfl, show u 8 0 = x from hk.1, ex]
          exact h u hu
      | some o =>
        obtain ⟨k, a⟩ := o
        have hcell := hs2 i (k, a) hc
        rw [hc] at e
        dsimp only at e
        have hil : i < c.length := by
          rcases Nat.lt_or_ge i c.length with q | q
          · exact q
          · rw [List.getElem?_eq_none q] at hc
            exact absurd hc (by simp)
        by_cases ha : 1048576 ≤ a
        · rw [if_pos ha] at e
          exact absurd e (by simp)
        rw [if_neg ha] at e
        have hsg := lc_sg_lt k
        have htg : lc_tg (b + i) (k, a) < 2000000 := by
          unfold lc_tg
          split <;> (dsimp only; omega)
        rw [hcell, lc_C, lc_and htg hsg]
        refine ⟨fun z => absurd z (lc_n59 k), fun _ => ?_⟩
        ((repeat' first | refine hP _ ?_ | fail); try dsimp only)
        refine ⟨vp_in_nI (by omega) (by omega), ?_⟩
        ((repeat' first | refine hP _ ?_ | fail); try dsimp only)
        refine ⟨vp_in_nI (by omega) (by omega), ?_⟩
        dsimp only
        rw [nI_clamp (by omega), g4, hcell, lc_C, lc_and htg hsg]
        ((iterate 3 refine hP _ ?_); try dsimp only)
        rw [lc_shr htg hsg]
        by_cases k0 : k = 0
        · subst k0
          rw [if_pos rfl] at e
          by_cases hlt : s.length < 32
          · rw [if_pos hlt] at e
            have e2 := ih (i + 1) (t + 1) (nI a :: s) (am_up u 8 t (nI a)) (some (.int (nI (lc_sg 0)))) (some (.int (nI a))) (by omega) (by simp [hst]) (by omega) (hup _ _) (by rw [← hst]; exact stk_push hk) e
            rw [show b + (i + 1) = b + i + 1 from rfl, ← nI_1 t, ← nI_1 (b + i)] at e2
            rw [show lc_tg (b + i) (0, a) = a from rfl]
            ((repeat' first | refine hP _ ?_ | fail); try dsimp only)
            refine ⟨fun _ => ?_, fun z => absurd (by decide) z⟩
            ((repeat' first | refine hP _ ?_ | fail); try dsimp only)
            refine ⟨fun _ => ?_, fun z => absurd (nI_lt (a := t) (b := 32) (by omega) (by omega)) z⟩
            ((repeat' first | refine hP _ ?_ | fail); try dsimp only)
            refine ⟨fun z => absurd rfl z, fun _ => ?_⟩
            ((repeat' first | refine hP _ ?_ | fail); try dsimp only)
            refine ⟨vp_in_nI (by omega) (by omega), ?_⟩
            dsimp only
            rw [nI_clamp (by omega)]
            ((iterate 4 refine hP _ ?_); try dsimp only)
            exact e2
          · rw [if_neg hlt] at e
            exact absurd e (by simp)
        rw [if_neg k0] at e
        by_cases k1 : k = 1
        · subst k1
          rw [if_pos rfl] at e
          by_cases hlt : s.length < 32 ∧ a < 10
          · rw [if_pos hlt] at e
            have e2 := ih (i + 1) (t + 1) (F a :: s) (am_up u 8 t (F a)) (some (.int (nI (lc_sg 1)))) (some (.int (nI a))) (by omega) (by simp [hst]) (by omega) (hup _ _) (by rw [← hst]; exact stk_push hk) e
            rw [show b + (i + 1) = b + i + 1 from rfl, ← nI_1 t, ← nI_1 (b + i)] at e2
            rw [show lc_tg (b + i) (1, a) = a from rfl]
            ((repeat' first | refine hP _ ?_ | fail); try dsimp only)
            refine ⟨fun z => absurd z (by decide), fun _ => ?_⟩
            ((repeat' first | refine hP _ ?_ | fail); try dsimp only)
            refine ⟨fun z => absurd (by decide) z, fun _ => ?_⟩
            ((repeat' first | refine hP _ ?_ | fail); try dsimp only)
            refine ⟨fun _ => ?_, fun z => absurd (nI_lt (a := t) (b := 32) (by omega) (by omega)) z⟩
            ((repeat' first | refine hP _ ?_ | fail); try dsimp only)
            refine ⟨fun _ => ?_, fun z => absurd z (by decide)⟩
            ((repeat' first | refine hP _ ?_ | fail); try dsimp only)
            refine m_seenAt hlt.2 ?_
            rw [g9, hF a hlt.2]
            ((repeat' first | refine hP _ ?_ | fail); try dsimp only)
            refine ⟨vp_in_nI (by omega) (by omega), ?_⟩
            dsimp only
            rw [nI_clamp (by omega)]
            ((iterate 4 refine hP _ ?_); try dsimp only)
            exact e2
          · rw [if_neg hlt] at e
            exact absurd e (by simp)
        rw [if_neg k1] at e
        match s, hst, hk, e with
        | [], _, _, e => exact absurd e (by simp)
        | x :: r, hst, hk, e =>
          obtain ⟨t, rfl⟩ : ∃ t', t = t' + 1 := ⟨r.length, by rw [← hst]; rfl⟩
          have hr : r.length = t := by
            rw [List.length_cons] at hst
            omega
          have hx : u 8 t = x := by
            rw [← hr]
            exact hk.1
          dsimp only at e
          by_cases k10 : k = 10
          · subst k10
            rw [if_pos rfl] at e
            have e2 := ih (i + 1) (t + 1) ((1 - x) :: r) (am_up u 8 t (1 - x)) (some (.int (nI (lc_sg 10)))) (some (.int (nI (lc_tg (b + i) (10, a))))) (by omega) (by simp [hr]) (by omega) (hup _ _) (by rw [← hr]; exact stk_push hk.2) e
            rw [show b + (i + 1) = b + i + 1 from rfl, ← nI_1 (b + i)] at e2
            ((repeat' first | refine hP _ ?_ | fail); try dsimp only)
            refine ⟨fun z => absurd z (by decide), fun _ => ?_⟩
            ((repeat' first | refine hP _ ?_ | fail); try dsimp only)
            refine ⟨fun _ => ?_, fun z => absurd z (by decide)⟩
            ((repeat' first | refine hP _ ?_ | fail); try dsimp only)
            refine ⟨fun z => absurd z (nI_nle (by omega) (by omega)), fun _ => ?_⟩
            ((repeat' first | refine hP _ ?_ | fail); try dsimp only)
            refine ⟨fun z => absurd z (by decide), fun _ => ?_⟩
            ((repeat' first | refine hP _ ?_ | fail); try dsimp only)
            refine ⟨fun _ => ?_, fun z => absurd z (by decide)⟩
            ((repeat' first | refine hP _ ?_ | fail); try dsimp only)
            refine ⟨fun z => absurd z (nI_nle (by omega) (by omega)), fun _ => ?_⟩
            ((repeat' first | refine hP _ ?_ | fail); try dsimp only)
            refine ⟨fun z => absurd (by decide) z, fun _ => ?_⟩
            ((repeat' first | refine hP _ ?_ | fail); try dsimp only)
            rw [nI_pred]
            refine ⟨vp_in_nI (by omega) (by omega), ?_⟩
            ((repeat' first | refine hP _ ?_ | fail); try dsimp only)
            refine ⟨vp_in_nI (by omega) (by omega), ?_⟩
            dsimp only
            rw [nI_clamp (by omega), hx]
            ((iterate 3 refine hP _ ?_); try dsimp only)
            exact e2
          rw [if_neg k10] at e
          by_cases kj : k = 11 ∨ k = 12
          · rw [if_pos kj] at e
            by_cases hb : (x = 0 ∨ x = 1) ∧ 1 ≤ a ∧ i + a ≤ c.length
            · rw [if_pos hb] at e
              obtain ⟨hb1, hb2, hb3⟩ := hb
              have htj : lc_tg (b + i) (k, a) = b + i + a := by
                unfold lc_tg
                rw [if_pos (show 11 ≤ k by omega)]
              rw [htj]
              have ej : lc_ev F c n (i + a) (x :: r) = some R → P (cd_X3_reckon.drop 84, [some (.ref 3), some (.int (nI b)), some (.int (nI (t + 1))), some (.int (nI (b + i))), some (.int (nI (lc_sg k))), some (.int (nI (b + i + a)))], [], (am_sh, u, w), 0, 0) := by
                intro e
                have e2 := ih (i + a) (t + 1) (x :: r) u (some (.int (nI (lc_sg k)))) (some (.int (nI (b + i + a)))) hb3 hst (by omega) hu hk e
                rw [← Nat.add_assoc] at e2
                ((iterate 9 refine hP _ ?_); try dsimp only)
                rw [lc_mx hb2 (by omega)]
                exact e2
              have en : lc_ev F c n (i + 1) r = some R → P (cd_X3_reckon.drop 91, [some (.ref 3), some (.int (nI b)), some (.int (nI (t + 1))), some (.int (nI (b + i))), some (.int (nI (lc_sg k))), some (.int (nI (b + i + a)))], [], (am_sh, u, w), 0, 0) := by
                intro e
                have e2 := ih (i + 1) t r u (some (.int (nI (lc_sg k)))) (some (.int (nI (b + i + a)))) (by omega) hr (by omega) hu hk.2 e
                rw [show b + (i + 1) = b + i + 1 from rfl, ← nI_1 (b + i), ← pk_m1 t] at e2
                ((iterate 4 refine hP _ ?_); try dsimp only)
                exact e2
              rcases kj with rfl | rfl
              · ((repeat' first | refine hP _ ?_ | fail); try dsimp only)
                refine ⟨fun z => absurd z (by decide), fun _ => ?_⟩
                ((repeat' first | refine hP _ ?_ | fail); try dsimp only)
                refine ⟨fun _ => ?_, fun z => absurd z (by decide)⟩
                ((repeat' first | refine hP _ ?_ | fail); try dsimp only)
                refine ⟨fun z => absurd z (nI_nle (by omega) (by omega)), fun _ => ?_⟩
                ((repeat' first | refine hP _ ?_ | fail); try dsimp only)
                refine ⟨fun _ => ?_, fun z => absurd (by decide) z⟩
                ((repeat' first | refine hP _ ?_ | fail); try dsimp only)
                rw [nI_pred]
                refine ⟨vp_in_nI (by omega) (by omega), ?_⟩
                ((repeat' first | refine hP _ ?_ | fail); try dsimp only)
                rw [nI_clamp (by omega), hx]
                rcases hb1 with rfl | rfl
                · rw [if_pos (by decide)] at e
                  refine ⟨fun _ => ?_, fun z => absurd rfl z⟩
                  ((repeat' first | refine hP _ ?_ | fail); try dsimp only)
                  refine ⟨fun _ => ?_, fun z => absurd z (by decide)⟩
                  ((repeat' first | refine hP _ ?_ | fail); try dsimp only)
                  refine ⟨fun z => absurd rfl z, fun _ => ?_⟩
                  exact ej e
                · rw [if_neg (by decide)] at e
                  refine ⟨fun z => absurd z (by decide), fun _ => ?_⟩
                  ((repeat' first | refine hP _ ?_ | fail); try dsimp only)
                  refine ⟨fun _ => ?_, fun z => absurd z (by decide)⟩
                  ((repeat' first | refine hP _ ?_ | fail); try dsimp only)
                  refine ⟨fun _ => ?_, fun z => absurd z (by decide)⟩
                  exact en e
              · ((repeat' first | refine hP _ ?_ | fail); try dsimp only)
                refine ⟨fun z => absurd z (by decide), fun _ => ?_⟩
                ((repeat' first | refine hP _ ?_ | fail); try dsimp only)
                refine ⟨fun _ => ?_, fun z => absurd z (by decide)⟩
                ((repeat' first | refine hP _ ?_ | fail); try dsimp only)
                refine ⟨fun z => absurd z (nI_nle (by omega) (by omega)), fun _ => ?_⟩
                ((repeat' first | refine hP _ ?_ | fail); try dsimp only)
                refine ⟨fun z => absurd z (by decide), fun _ => ?_⟩
                ((repeat' first | refine hP _ ?_ | fail); try dsimp only)
                refine ⟨fun z => absurd (by decide) z, fun _ => ?_⟩
                ((repeat' first | refine hP _ ?_ | fail); try dsimp only)
                rw [nI_pred]
                refine ⟨vp_in_nI (by omega) (by omega), ?_⟩
                ((repeat' first | refine hP _ ?_ | fail); try dsimp only)
                rw [nI_clamp (by omega), hx]
                rcases hb1 with rfl | rfl
                · rw [if_neg (by decide)] at e
                  refine ⟨fun _ => ?_, fun z => absurd rfl z⟩
                  ((repeat' first | refine hP _ ?_ | fail); try dsimp only)
                  refine ⟨fun z => absurd (by decide) z, fun _ => ?_⟩
                  ((repeat' first | refine hP _ ?_ | fail); try dsimp only)
                  refine ⟨fun _ => ?_, fun z => absurd z (by decide)⟩
                  exact en e
                · rw [if_pos (by decide)] at e
                  refine ⟨fun z => absurd z (by decide), fun _ => ?_⟩
                  ((repeat' first | refine hP _ ?_ | fail); try dsimp only)
                  refine ⟨fun z => absurd (by decide) z, fun _ => ?_⟩
                  ((repeat' first | refine hP _ ?_ | fail); try dsimp only)
                  refine ⟨fun z => absurd rfl z, fun _ => ?_⟩
                  exact ej e
            · rw [if_neg hb] at e
              exact absurd e (by simp)
          rw [if_neg kj] at e
          match r, hr, hk, e with
          | [], _, _, e => exact absurd e (by simp)
          | y :: r2, hr, hk, e =>
            obtain ⟨t, rfl⟩ : ∃ t', t = t' + 1 := ⟨r2.length, by rw [← hr]; rfl⟩
            have hr2 : r2.length = t := by
              rw [List.length_cons] at hr
              omega
            have hy : u 8 t = y := by
              rw [← hr2]
              exact hk.2.1
            dsimp only at e
            by_cases k29 : 2 ≤ k ∧ k ≤ 9
            · rw [if_pos k29] at e
              have go : P (cd_X3_reckon.drop 113, [some (.ref 3), some (.int (nI b)), some (.int (nI (t + 1 + 1))), some (.int (nI (b + i))), some (.int (nI (lc_sg k))), some (.int (nI (lc_tg (b + i) (k, a))))], [], (am_sh, u, w), 0, 0) := by
                ((repeat' first | refine hP _ ?_ | fail); try dsimp only)
                refine ⟨fun z => absurd z (nI_nlt (b := 2) (by omega) (by omega)), fun _ => ?_⟩
                ((repeat' first | refine hP _ ?_ | fail); try dsimp only)
                rw [nI_pred]
                refine ⟨vp_in_nI (by omega) (by omega), ?_⟩
                ((repeat' first | refine hP _ ?_ | fail); try dsimp only)
                rw [nI_clamp (by omega), hx]
                refine m_X3_refused k29.1 k29.2 ?_
                by_cases rf : (k = 5 ∨ k = 6) ∧ x = 0
                · rw [if_pos rf] at e ⊢
                  ((repeat' first | refine hP _ ?_ | fail); try dsimp only)
                  refine ⟨fun z => absurd z (by decide), fun _ => ?_⟩
                  ((repeat' first | refine hP _ ?_ | fail); try dsimp only)
                  rw [← Option.some.inj e] at h
                  exact h u hu
                · rw [if_neg rf] at e ⊢
                  have e2 := ih (i + 1) (t + 1) (lc_join k y x :: r2) (am_up u 8 t (lc_join k y x)) (some (.int (nI (lc_sg k)))) (some (.int (nI (lc_tg (b + i) (k, a))))) (by omega) (by simp [hr2]) (by omega) (hup _ _) (by rw [← hr2]; exact stk_push hk.2.2) e
                  rw [show b + (i + 1) = b + i + 1 from rfl, ← nI_1 (b + i)] at e2
                  ((repeat' first | refine hP _ ?_ | fail); try dsimp only)
                  refine ⟨fun _ => ?_, fun z => absurd rfl z⟩
                  ((repeat' first | refine hP _ ?_ | fail); try dsimp only)
                  rw [pk_m1, nI_pred]
                  refine ⟨vp_in_nI (by omega) (by omega), ?_⟩
                  ((repeat' first | refine hP _ ?_ | fail); try dsimp only)
                  refine ⟨vp_in_nI (by omega) (by omega), ?_⟩
                  ((repeat' first | refine hP _ ?_ | fail); try dsimp only)
                  rw [nI_clamp (by omega), nI_clamp (by omega), hx, hy]
                  refine m_X3_join k29.1 k29.2 (fun z z2 => rf ⟨z, z2⟩) ?_
                  ((repeat' first | refine hP _ ?_ | fail); try dsimp only)
                  refine ⟨vp_in_nI (by omega) (by omega), ?_⟩
                  dsimp only
                  rw [nI_clamp (by omega)]
                  ((iterate 2 refine hP _ ?_); try dsimp only)
                  exact e2
              rcases lc_op8 k29.1 k29.2 with rfl | rfl | rfl | rfl | rfl | rfl | rfl | rfl
              all_goals
                ((repeat' first | refine hP _ ?_ | fail); try dsimp only)
                refine ⟨fun z => absurd z (by decide), fun _ => ?_⟩
                ((repeat' first | refine hP _ ?_ | fail); try dsimp only)
                refine ⟨fun _ => ?_, fun z => absurd z (by decide)⟩
                ((repeat' first | refine hP _ ?_ | fail); try dsimp only)
                refine ⟨fun z => absurd z (nI_nle (by omega) (by omega)), fun _ => ?_⟩
                ((repeat' first | refine hP _ ?_ | fail); try dsimp only)
                refine ⟨fun z => absurd z (by decide), fun _ => ?_⟩
                ((repeat' first | refine hP _ ?_ | fail); try dsimp only)
                refine ⟨fun _ => ?_, fun z => absurd z (by decide)⟩
                ((repeat' first | refine hP _ ?_ | fail); try dsimp only)
                refine ⟨fun z => absurd z (nI_nle (by omega) (by omega)), fun _ => ?_⟩
                ((repeat' first | refine hP _ ?_ | fail); try dsimp only)
                refine ⟨fun _ => ?_, fun z => absurd z (by decide)⟩
                exact go
            · rw [if_neg k29] at e
              exact absurd e (by simp)
  ((iterate 4 refine hP _ ?_); try dsimp only)
  exact key (c.length + 1) 0 0 [] v none none (by omega) rfl (by omega) (fun _ _ => rfl) trivial hR
end M61
