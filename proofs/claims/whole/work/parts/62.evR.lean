/-! ===== THE LAW's code, reckoned: the reference ===== -/
theorem lc_Rdiv {k t : Nat} (hk : k ≤ 12) (ht : t < 1048576) : nI (k * 1048576 + t) / 1048576 = nI k := by
  have e := pk_div (a := k * 1048576 + t) (d := 1048576) (by omega) (by omega) (by omega)
  rw [show (k * 1048576 + t) / 1048576 = k by omega] at e
  exact e
theorem lc_Rmod {k t : Nat} (hk : k ≤ 12) (ht : t < 1048576) : am_rem (nI (k * 1048576 + t)) 1048576 = nI t := by
  have e := pk_rem (a := k * 1048576 + t) (d := 1048576) (by omega) (by omega) (by omega)
  rw [show (k * 1048576 + t) % 1048576 = t by omega] at e
  exact e
theorem stk_bot {f : Nat → Int32} {x : Int32} (h : stk f [x]) : f 0 = x := h.1
section M62
variable {K : am_K} {I : am_I} {d : Nat} {v : am_V} {w : am_X} {sh : List am_S} {Q : Option Value → am_H → Prop}
set_option maxRecDepth 100000 in
set_option maxHeartbeats 4000000 in
theorem m_X12_reckon {k : Nat} (h1 : 2 ≤ k) (h2 : k ≤ 9) {x y : Int32} (hy : (k = 5 ∨ k = 6) → ¬ y = 0) (h : Q (some (.int (lc_join k x y))) (sh, v, w)) : am_run K I am_m (d + 1) 174 [.int (nI k), .int x, .int y] (sh, v, w) 0 0 Q := by
  refine en_X12_reckon rfl ?_
  intro P hP
  have fin : ∀ t : Nat, (t = 2 → k = 2) → (t = 6 → k = 3) → (t = 10 → k = 4) → (t = 14 → k = 5) → (t = 18 → k = 6) → (t = 22 → k = 7) → (t = 29 → k = 8) → (t = 36 → k = 9) → (t = 2 ∨ t = 6 ∨ t = 10 ∨ t = 14 ∨ t = 18 ∨ t = 22 ∨ t = 29 ∨ t = 36) → P (cd_X12_reckon.drop t, [some (.int (nI k)), some (.int x), some (.int y)], [], (sh, v, w), 0, 0) := by
    intro t a1 a2 a3 a4 a5 a6 a7 a8 ht
    rcases ht with rfl | rfl | rfl | rfl | rfl | rfl | rfl | rfl
    · rw [a1 rfl] at h
      ((repeat' first | refine hP _ ?_ | fail); try dsimp only)
      exact h
    · rw [a2 rfl] at h
      ((repeat' first | refine hP _ ?_ | fail); try dsimp only)
      exact h
    · rw [a3 rfl] at h
      ((repeat' first | refine hP _ ?_ | fail); try dsimp only)
      exact h
    · have hy0 := hy (Or.inl (a4 rfl))
      rw [a4 rfl] at h
      ((repeat' first | refine hP _ ?_ | fail); try dsimp only)
      refine ⟨hy0, ?_⟩
      ((repeat' first | refine hP _ ?_ | fail); try dsimp only)
      exact h
    · have hy0 := hy (Or.inr (a5 rfl))
      rw [a5 rfl] at h
      ((repeat' first | refine hP _ ?_ | fail); try dsimp only)
      refine ⟨hy0, ?_⟩
      ((repeat' first | refine hP _ ?_ | fail); try dsimp only)
      exact h
    · rw [a6 rfl] at h
      unfold lc_join at h
      ((repeat' first | refine hP _ ?_ | refine ⟨fun c1 => absurd c1 (by decide), fun _ => ?_⟩ | refine ⟨fun _ => ?_, fun c1 => absurd c1 (by decide)⟩ | refine ⟨am_vin rfl, ?_⟩ | refine ⟨fun c1 => ?_, fun c1 => ?_⟩ | refine ⟨Or.inr rfl, ?_⟩ | refine ⟨Or.inl rfl, ?_⟩ | fail); all_goals (try dsimp only at *))
      · rw [if_neg (Int32.not_lt.mpr c1)] at h
        exact h
      · rw [if_pos (Int32.not_le.mp c1)] at h
        exact h
    · rw [a7 rfl] at h
      unfold lc_join at h
      ((repeat' first | refine hP _ ?_ | refine ⟨fun c1 => absurd c1 (by decide), fun _ => ?_⟩ | refine ⟨fun _ => ?_, fun c1 => absurd c1 (by decide)⟩ | refine ⟨am_vin rfl, ?_⟩ | refine ⟨fun c1 => ?_, fun c1 => ?_⟩ | refine ⟨Or.inr rfl, ?_⟩ | refine ⟨Or.inl rfl, ?_⟩ | fail); all_goals (try dsimp only at *))
      · rw [if_neg (Int32.not_lt.mpr c1)] at h
        exact h
      · rw [if_pos (Int32.not_le.mp c1)] at h
        exact h
    · rw [a8 rfl] at h
      unfold lc_join at h
      ((repeat' first | refine hP _ ?_ | refine ⟨fun c1 => absurd c1 (by decide), fun _ => ?_⟩ | refine ⟨fun _ => ?_, fun c1 => absurd c1 (by decide)⟩ | refine ⟨am_vin rfl, ?_⟩ | refine ⟨fun c1 => ?_, fun c1 => ?_⟩ | refine ⟨Or.inr rfl, ?_⟩ | refine ⟨Or.inl rfl, ?_⟩ | fail); all_goals (try dsimp only at *))
      · rw [if_neg c1] at h
        exact h
      · rw [if_pos c1] at h
        exact h
  ((repeat' first | refine hP _ ?_ | fail); try dsimp only)
  refine ⟨⟨fun z => ?_, fun z => ?_, fun z => ?_, fun z => ?_, fun z => ?_, fun z => ?_, fun z => ?_, trivial⟩, fun z => ?_⟩
  · have e : k = 2 := (nI_eq (b := 2) (by omega) (by omega)).mp z
    exact fin 2 (by omega) (by omega) (by omega) (by omega) (by omega) (by omega) (by omega) (by omega) (by omega)
  · have e : k = 3 := (nI_eq (b := 3) (by omega) (by omega)).mp z
    exact fin 6 (by omega) (by omega) (by omega) (by omega) (by omega) (by omega) (by omega) (by omega) (by omega)
  · have e : k = 4 := (nI_eq (b := 4) (by omega) (by omega)).mp z
    exact fin 10 (by omega) (by omega) (by omega) (by omega) (by omega) (by omega) (by omega) (by omega) (by omega)
  · have e : k = 5 := (nI_eq (b := 5) (by omega) (by omega)).mp z
    exact fin 14 (by omega) (by omega) (by omega) (by omega) (by omega) (by omega) (by omega) (by omega) (by omega)
  · have e : k = 6 := (nI_eq (b := 6) (by omega) (by omega)).mp z
    exact fin 18 (by omega) (by omega) (by omega) (by omega) (by omega) (by omega) (by omega) (by omega) (by omega)
  · have e : k = 7 := (nI_eq (b := 7) (by omega) (by omega)).mp z
    exact fin 22 (by omega) (by omega) (by omega) (by omega) (by omega) (by omega) (by omega) (by omega) (by omega)
  · have e : k = 8 := (nI_eq (b := 8) (by omega) (by omega)).mp z
    exact fin 29 (by omega) (by omega) (by omega) (by omega) (by omega) (by omega) (by omega) (by omega) (by omega)
  · have e : k = 9 := by
      rcases z with z | z
      · exact absurd ((nI_ltI (b := 2) (by omega) (by omega)).mp z) (by omega)
      · have := (nI_leI (a := 9) (b := k) (by omega) (by omega)).mp z
        omega
    exact fin 36 (by omega) (by omega) (by omega) (by omega) (by omega) (by omega) (by omega) (by omega) (by omega)
set_option maxRecDepth 100000 in
set_option maxHeartbeats 4000000 in
theorem m_comesTo {b e : Nat} {c : List lc_O} {F : Nat → Int32} (hs : lc_sR (v 73) b e c) (hF : ∀ a, a < 10 → v 79 a = F a) {R : Int32} (hR : lc_val F c = some R) (h : ∀ v' : am_V, (∀ k, k ≠ 78 → v' k = v k) → Q (some (.int R)) (am_sh, v', w)) : am_run K I am_m (d + 2) 175 [.ref 62, .int (nI b), .int (nI e)] (am_sh, v, w) 0 0 Q := by
  refine en_X12_comesTo rfl ?_
  intro P hP
  obtain ⟨hs1, hs2, hs3⟩ := hs
  have key : ∀ (n i t : Nat) (s : List Int32) (u : am_V) (l6 l7 : Option Value), i ≤ c.length → s.length = t → t ≤ 32 → (∀ k, k ≠ 78 → u k = v k) → stk (u 78) s → lc_ev F c n i s = some R → P (cd_X12_comesTo.drop 10, [some (.ref 62), some (.int (nI b)), some (.int (nI e)), some (.int (nI t)), some (.int 0), some (.int (nI (b + i))), l6, l7], [], (am_sh, u, w), 0, 0) := by
    intro n
    induction n with
    | zero =>
      intro i t s u l6 l7 _ _ _ _ _ ee
      exact absurd ee (by simp [lc_ev])
    | succ n ih =>
      intro i t s u l6 l7 hi hst ht hu hk ee
      have g73 : u 73 = v 73 := hu 73 (by decide)
      have g79 : u 79 = v 79 := hu 79 (by decide)
      have hup : ∀ (j : Nat) (x : Int32) (k : Nat), k ≠ 78 → am_up u 78 j x k = v k := fun j x k hk => by rw [am_up_ne _ _ _ hk]; exact hu k hk
      unfold lc_ev at ee
      ((repeat' first | refine hP _ ?_ | fail); try dsimp only)
      cases hc : c[i]? with
      | none =>
        rw [hc] at ee
        have hil : i = c.length := by
          have := List.getElem?_eq_none_iff.mp hc
          omega
        rw [hs1, hil]
        refine ⟨fun _ => ?_, fun z => absurd (Int32.le_refl _) z⟩
        match s, hst, hk, ee with
        | [x], hst, hk, ee =>
          have ex : x = R := Option.some.inj ee
          ((repeat' first | refine hP _ ?_ | fail); try dsimp only)
          refine ⟨am_vin rfl, ?_⟩
          ((repeat' first | refine hP _ ?_ | fail); try dsimp only)
          rw [show Int32.toNatClampNeg 0 = 0 from rfl, stk_bot hk, ex]
          exact h u hu
      | some o =>
        obtain ⟨k, a⟩ := o
        have hcell := hs3 i (k, a) hc
        rw [hc] at ee
        dsimp only at ee
        have hil : i < c.length := by
          rcases Nat.lt_or_ge i c.length with q | q
          · exact q
          · rw [List.getElem?_eq_none q] at hc
            exact absurd hc (by simp)
        by_cases ha : 1048576 ≤ a
        · rw [if_pos ha] at ee
          exact absurd ee (by simp)
        rw [if_neg ha] at ee
        have k12 : k ≤ 12 := by
          rcases Nat.lt_or_ge 12 k with q | q
          · rw [if_neg (by omega), if_neg (by omega)] at ee
            match s, ee with
            | [], ee => exact absurd ee (by simp)
            | x :: r, ee =>
              dsimp only at ee
              rw [if_neg (by omega), if_neg (by omega)] at ee
              match r, ee with
              | [], ee => exact absurd ee (by simp)
              | y :: r2, ee =>
                dsimp only at ee
                rw [if_neg (by omega)] at ee
                exact absurd ee (by simp)
          · exact q
        have htg : lc_tg (b + i) (k, a) < 1048576 := by
          unfold lc_tg
          by_cases q : 11 ≤ k
          · rw [if_pos q]
            dsimp only
            rw [if_neg (by omega), if_neg (by omega)] at ee
            match s, ee with
            | [], ee => exact absurd ee (by simp)
            | x :: r, ee =>
              dsimp only at ee
              rw [if_neg (by omega), if_pos (by omega)] at ee
              by_cases hb : (x = 0 ∨ x = 1) ∧ 1 ≤ a ∧ i + a ≤ c.length
              · omega
              · rw [if_neg hb] at ee
                exact absurd ee (by simp)
          · rw [if_neg q]
            dsimp only
            omega
        refine ⟨fun z => absurd z (nI_ge (by omega) (by omega)), fun _ => ?_⟩
        ((repeat' first | refine hP _ ?_ | fail); try dsimp only)
        refine ⟨vp_in_nI (by omega) (by omega), ?_⟩
        ((repeat' first | refine hP _ ?_ | fail); try dsimp only)
        refine ⟨by decide, ?_⟩
        ((repeat' first | refine hP _ ?_ | fail); try dsimp only)
        refine ⟨vp_in_nI (by omega) (by omega), ?_⟩
        ((repeat' first | refine hP _ ?_ | fail); try dsimp only)
        refine ⟨by decide, ?_⟩
        try dsimp only
        rw [nI_clamp (by omega), g73, hcell, lc_R, lc_Rdiv k12 htg, lc_Rmod k12 htg]
        ((iterate 5 refine hP _ ?_); try dsimp only)
        rw [nI_1]
        by_cases k0 : k = 0
        · subst k0
          rw [if_pos rfl] at ee
          by_cases hlt : s.length < 32
          · rw [if_pos hlt] at ee
            have e2 := ih (i + 1) (t + 1) (nI a :: s) (am_up u 78 t (nI a)) (some (.int (nI 0))) (some (.int (nI a))) (by omega) (by simp [hst]) (by omega) (hup _ _) (by rw [← hst]; exact stk_push hk) ee
            rw [show b + (i + 1) = b + i + 1 from rfl, ← nI_1 t] at e2
            rw [show lc_tg (b + i) (0, a) = a from rfl]
            ((repeat' first | refine hP _ ?_ | fail); try dsimp only)
            refine ⟨fun _ => ?_, fun z => absurd (by decide) z⟩
            ((repeat' first | refine hP _ ?_ | fail); try dsimp only)
            refine ⟨fun z => absurd rfl z, fun _ => ?_⟩
            ((repeat' first | refine hP _ ?_ | fail); try dsimp only)
            refine ⟨vp_in_nI (by omega) (by omega), ?_⟩
            dsimp only
            rw [nI_clamp (by omega)]
            ((iterate 6 refine hP _ ?_); try dsimp only)
            exact e2
          · rw [if_neg hlt] at ee
            exact absurd ee (by simp)
        rw [if_neg k0] at ee
        by_cases k1 : k = 1
        · subst k1
          rw [if_pos rfl] at ee
          by_cases hlt : s.length < 32 ∧ a < 10
          · rw [if_pos hlt] at ee
            have e2 := ih (i + 1) (t + 1) (F a :: s) (am_up u 78 t (F a)) (some (.int (nI 1))) (some (.int (nI a))) (by omega) (by simp [hst]) (by omega) (hup _ _) (by rw [← hst]; exact stk_push hk) ee
            rw [show b + (i + 1) = b + i + 1 from rfl, ← nI_1 t] at e2
            rw [show lc_tg (b + i) (1, a) = a from rfl]
            ((repeat' first | refine hP _ ?_ | fail); try dsimp only)
            refine ⟨fun z => absurd z (by decide), fun _ => ?_⟩
            ((repeat' first | refine hP _ ?_ | fail); try dsimp only)
            refine ⟨fun z => absurd (by decide) z, fun _ => ?_⟩
            ((repeat' first | refine hP _ ?_ | fail); try dsimp only)
            refine ⟨fun _ => ?_, fun z => absurd z (by decide)⟩
            ((repeat' first | refine hP _ ?_ | fail); try dsimp only)
            refine ⟨vp_in_nI (by omega) (by omega), ?_⟩
            ((repeat' first | refine hP _ ?_ | fail); try dsimp only)
            refine ⟨vp_in_nI (by omega) (by omega), ?_⟩
            dsimp only
            rw [nI_clamp (n := a) (by omega), nI_clamp (by omega), g79, hF a hlt.2]
            ((iterate 6 refine hP _ ?_); try dsimp only)
            exact e2
          · rw [if_neg hlt] at ee
            exact absurd ee (by simp)
        rw [if_neg k1] at ee
        match s, hst, hk, ee with
        | [], _, _, ee => exact absurd ee (by simp)
        | x :: r, hst, hk, ee =>
          obtain ⟨t, rfl⟩ : ∃ t', t = t' + 1 := ⟨r.length, by rw [← hst]; rfl⟩
          have hr : r.length = t := by
            rw [List.length_cons] at hst
            omega
          have hx : u 78 t = x := by
            rw [← hr]
            exact hk.1
          dsimp only at ee
          by_cases k10 : k = 10
          · subst k10
            rw [if_pos rfl] at ee
            have e2 := ih (i + 1) (t + 1) ((1 - x) :: r) (am_up u 78 t (1 - x)) (some (.int (nI 10))) (some (.int (nI (lc_tg (b + i) (10, a))))) (by omega) (by simp [hr]) (by omega) (hup _ _) (by rw [← hr]; exact stk_push hk.2) ee
            rw [show b + (i + 1) = b + i + 1 from rfl] at e2
            ((repeat' first | refine hP _ ?_ | fail); try dsimp only)
            refine ⟨fun z => absurd z (by decide), fun _ => ?_⟩
            ((repeat' first | refine hP _ ?_ | fail); try dsimp only)
            refine ⟨fun _ => ?_, fun z => absurd z (by decide)⟩
            ((repeat' first | refine hP _ ?_ | fail); try dsimp only)
            refine ⟨fun z => absurd (by decide) z, fun _ => ?_⟩
            ((repeat' first | refine hP _ ?_ | fail); try dsimp only)
            rw [nI_pred]
            refine ⟨vp_in_nI (by omega) (by omega), ?_⟩
            ((repeat' first | refine hP _ ?_ | fail); try dsimp only)
            refine ⟨vp_in_nI (by omega) (by omega), ?_⟩
            dsimp only
            rw [nI_clamp (by omega), hx]
            ((iterate 2 refine hP _ ?_); try dsimp only)
            exact e2
          rw [if_neg k10] at ee
          by_cases kj : k = 11 ∨ k = 12
          · rw [if_pos kj] at ee
            by_cases hb : (x = 0 ∨ x = 1) ∧ 1 ≤ a ∧ i + a ≤ c.length
            · rw [if_pos hb] at ee
              obtain ⟨hb1, hb2, hb3⟩ := hb
              have htj : lc_tg (b + i) (k, a) = b + i + a := by
                unfold lc_tg
                rw [if_pos (show 11 ≤ k by omega)]
              rw [htj]
              have ej : lc_ev F c n (i + a) (x :: r) = some R → P (cd_X12_comesTo.drop 90, [some (.ref 62), some (.int (nI b)), some (.int (nI e)), some (.int (nI (t + 1))), some (.int 0), some (.int (nI (b + i + 1))), some (.int (nI k)), some (.int (nI (b + i + a)))], [], (am_sh, u, w), 0, 0) := by
                intro ee
                have e2 := ih (i + a) (t + 1) (x :: r) u (some (.int (nI k))) (some (.int (nI (b + i + a)))) hb3 hst (by omega) hu hk ee
                rw [← Nat.add_assoc] at e2
                ((iterate 6 refine hP _ ?_); try dsimp only)
                rw [Int32.zero_add]
                exact e2
              have en : lc_ev F c n (i + 1) r = some R → P (cd_X12_comesTo.drop 95, [some (.ref 62), some (.int (nI b)), some (.int (nI e)), some (.int (nI (t + 1))), some (.int 0), some (.int (nI (b + i + 1))), some (.int (nI k)), some (.int (nI (b + i + a)))], [], (am_sh, u, w), 0, 0) := by
                intro ee
                have e2 := ih (i + 1) t r u (some (.int (nI k))) (some (.int (nI (b + i + a)))) (by omega) hr (by omega) hu hk.2 ee
                rw [show b + (i + 1) = b + i + 1 from rfl, ← nI_pred t] at e2
                ((iterate 6 refine hP _ ?_); try dsimp only)
                exact e2
              rcases kj with rfl | rfl
              · ((repeat' first | refine hP _ ?_ | fail); try dsimp only)
                refine ⟨fun z => absurd z (by decide), fun _ => ?_⟩
                ((repeat' first | refine hP _ ?_ | fail); try dsimp only)
                refine ⟨fun _ => ?_, fun z => absurd z (by decide)⟩
                ((repeat' first | refine hP _ ?_ | fail); try dsimp only)
                refine ⟨fun _ => ?_, fun z => absurd z (by decide)⟩
                ((repeat' first | refine hP _ ?_ | fail); try dsimp only)
                refine ⟨fun _ => ?_, fun z => absurd (by decide) z⟩
                ((repeat' first | refine hP _ ?_ | fail); try dsimp only)
                rw [nI_pred]
                refine ⟨vp_in_nI (by omega) (by omega), ?_⟩
                ((repeat' first | refine hP _ ?_ | fail); try dsimp only)
                rw [nI_clamp (by omega), hx]
                refine ⟨fun _ => ?_, fun z => absurd z (by decide)⟩
                ((repeat' first | refine hP _ ?_ | fail); try dsimp only)
                rcases hb1 with rfl | rfl
                · rw [if_pos (by decide)] at ee
                  refine ⟨fun z => absurd rfl z, fun _ => ?_⟩
                  exact ej ee
                · rw [if_neg (by decide)] at ee
                  refine ⟨fun _ => ?_, fun z => absurd z (by decide)⟩
                  exact en ee
              · ((repeat' first | refine hP _ ?_ | fail); try dsimp only)
                refine ⟨fun z => absurd z (by decide), fun _ => ?_⟩
                ((repeat' first | refine hP _ ?_ | fail); try dsimp only)
                refine ⟨fun _ => ?_, fun z => absurd z (by decide)⟩
                ((repeat' first | refine hP _ ?_ | fail); try dsimp only)
                refine ⟨fun _ => ?_, fun z => absurd z (by decide)⟩
                ((repeat' first | refine hP _ ?_ | fail); try dsimp only)
                refine ⟨fun z => absurd z (by decide), fun _ => ?_⟩
                ((repeat' first | refine hP _ ?_ | fail); try dsimp only)
                refine ⟨fun z => absurd (by decide) z, fun _ => ?_⟩
                ((repeat' first | refine hP _ ?_ | fail); try dsimp only)
                rw [nI_pred]
                refine ⟨vp_in_nI (by omega) (by omega), ?_⟩
                ((repeat' first | refine hP _ ?_ | fail); try dsimp only)
                rw [nI_clamp (by omega), hx]
                refine ⟨fun z => absurd (by decide) z, fun _ => ?_⟩
                ((repeat' first | refine hP _ ?_ | fail); try dsimp only)
                rcases hb1 with rfl | rfl
                · rw [if_neg (by decide)] at ee
                  refine ⟨fun _ => ?_, fun z => absurd z (by decide)⟩
                  exact en ee
                · rw [if_pos (by decide)] at ee
                  refine ⟨fun z => absurd rfl z, fun _ => ?_⟩
                  exact ej ee
            · rw [if_neg hb] at ee
              exact absurd ee (by simp)
          rw [if_neg kj] at ee
          match r, hr, hk, ee with
          | [], _, _, ee => exact absurd ee (by simp)
          | y :: r2, hr, hk, ee =>
            obtain ⟨t, rfl⟩ : ∃ t', t = t' + 1 := ⟨r2.length, by rw [← hr]; rfl⟩
            have hr2 : r2.length = t := by
              rw [List.length_cons] at hr
              omega
            have hy : u 78 t = y := by
              rw [← hr2]
              exact hk.2.1
            dsimp only at ee
            by_cases k29 : 2 ≤ k ∧ k ≤ 9
            · rw [if_pos k29] at ee
              have go : ¬ ((k = 5 ∨ k = 6) ∧ x = 0) → P (cd_X12_comesTo.drop 117, [some (.ref 62), some (.int (nI b)), some (.int (nI e)), some (.int (nI (t + 1))), some (.int 0), some (.int (nI (b + i + 1))), some (.int (nI k)), some (.int (nI (lc_tg (b + i) (k, a))))], [], (am_sh, u, w), 0, 0) := by
                intro rf
                rw [if_neg rf] at ee
                have e2 := ih (i + 1) (t + 1) (lc_join k y x :: r2) (am_up u 78 t (lc_join k y x)) (some (.int (nI k))) (some (.int (nI (lc_tg (b + i) (k, a))))) (by omega) (by simp [hr2]) (by omega) (hup _ _) (by rw [← hr2]; exact stk_push hk.2.2) ee
                rw [show b + (i + 1) = b + i + 1 from rfl] at e2
                ((repeat' first | refine hP _ ?_ | fail); try dsimp only)
                rw [nI_pred]
                refine ⟨vp_in_nI (by omega) (by omega), ?_⟩
                ((repeat' first | refine hP _ ?_ | fail); try dsimp only)
                refine ⟨vp_in_nI (by omega) (by omega), ?_⟩
                ((repeat' first | refine hP _ ?_ | fail); try dsimp only)
                rw [nI_clamp (by omega), nI_clamp (by omega), hx, hy]
                refine m_X12_reckon k29.1 k29.2 (fun z z2 => rf ⟨z, z2⟩) ?_
                ((repeat' first | refine hP _ ?_ | fail); try dsimp only)
                refine ⟨vp_in_nI (by omega) (by omega), ?_⟩
                dsimp only
                rw [nI_clamp (by omega)]
                ((iterate 1 refine hP _ ?_); try dsimp only)
                exact e2
              have go5 : (k = 5 ∨ k = 6) → P (cd_X12_comesTo.drop 110, [some (.ref 62), some (.int (nI b)), some (.int (nI e)), some (.int (nI (t + 1))), some (.int 0), some (.int (nI (b + i + 1))), some (.int (nI k)), some (.int (nI (lc_tg (b + i) (k, a))))], [], (am_sh, u, w), 0, 0) := by
                intro k56
                ((repeat' first | refine hP _ ?_ | fail); try dsimp only)
                refine ⟨vp_in_nI (by omega) (by omega), ?_⟩
                ((repeat' first | refine hP _ ?_ | fail); try dsimp only)
                rw [nI_clamp (by omega), hx]
                refine ⟨fun z => go (fun q => z q.2), fun z => ?_⟩
                rw [if_pos ⟨k56, z⟩] at ee
                ((repeat' first | refine hP _ ?_ | fail); try dsimp only)
                rw [← Option.some.inj ee] at h
                exact h u hu
              rcases lc_op8 k29.1 k29.2 with rfl | rfl | rfl | rfl | rfl | rfl | rfl | rfl
              all_goals
                ((repeat' first | refine hP _ ?_ | fail); try dsimp only)
                refine ⟨fun z => absurd z (by decide), fun _ => ?_⟩
                ((repeat' first | refine hP _ ?_ | fail); try dsimp only)
                refine ⟨fun _ => ?_, fun z => absurd z (by decide)⟩
                ((repeat' first | refine hP _ ?_ | fail); try dsimp only)
                refine ⟨fun _ => ?_, fun z => absurd z (by decide)⟩
                ((repeat' first | refine hP _ ?_ | fail); try dsimp only)
                refine ⟨fun z => absurd z (by decide), fun _ => ?_⟩
                ((repeat' first | refine hP _ ?_ | fail); try dsimp only)
                refine ⟨fun _ => ?_, fun z => absurd z (by decide)⟩
                ((repeat' first | refine hP _ ?_ | fail); try dsimp only)
                rw [nI_pred]
                first
                  | (refine ⟨fun _ => ?_, fun z => absurd (by decide) z⟩
                     exact go5 (by decide))
                  | (refine ⟨fun z => absurd z (by decide), fun _ => ?_⟩
                     ((repeat' first | refine hP _ ?_ | fail); try dsimp only)
                     refine ⟨fun z => absurd (by decide) z, fun _ => ?_⟩
                     exact go5 (by decide))
                  | (refine ⟨fun z => absurd z (by decide), fun _ => ?_⟩
                     ((repeat' first | refine hP _ ?_ | fail); try dsimp only)
                     refine ⟨fun _ => ?_, fun z => absurd z (by decide)⟩
                     exact go (fun q => absurd q.1 (by decide)))
            · rw [if_neg k29] at ee
              exact absurd ee (by simp)
  have he : b + c.length ≤ 240 := by omega
  ((repeat' first | refine hP _ ?_ | fail); try dsimp only)
  refine ⟨by decide, ?_⟩
  have e260 : (260 : Int32) * (nI b / 260) = 0 := by
    have e1 := pk_div (a := b) (d := 260) (by omega) (by omega) (by omega)
    rw [show b / 260 = 0 by omega] at e1
    rw [show nI b / 260 = 0 from e1]
    rfl
  try dsimp only
  ((iterate 4 refine hP _ ?_); try dsimp only)
  rw [e260]
  exact key (c.length + 1) 0 0 [] v none none (by omega) rfl (by omega) (fun _ _ => rfl) trivial hR
end M62
