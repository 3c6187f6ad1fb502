/-! ===== treaties: the class's rows of bits ===== -/
section M80
variable {K : am_K} {I : am_I} {d : Nat} {v : am_V} {w : am_X} {Q : Option Value → am_H → Prop}
set_option maxRecDepth 100000 in
set_option maxHeartbeats 4000000 in
theorem m_join {E : Nat → Nat → Prop} {x y : Nat} (hx : x < 16) (hy : y < 16) (hE : ∀ a, a < 16 → tr_set (v 23 a) (E a)) (h : ∀ v' : am_V, (∀ k, k ≠ 23 → v' k = v k) → (∀ a, a < 16 → tr_set (v' 23 a) (fun c => ((E x a ∨ E y a) ∧ (E x c ∨ E y c)) ∨ (¬ (E x a ∨ E y a) ∧ E a c))) → Q none (am_sh, v', w)) : am_run K I am_m (d + 1) 95 [.ref 22, .int (nI x), .int (nI y)] (am_sh, v, w) 0 0 Q := by
  have hU := ts_or (hE x hx) (hE y hy)
  refine en_X9_joinActs rfl ?_
  intro P hP
  have key : ∀ (m i : Nat) (u : am_V), i + m = 16 → (∀ k, k ≠ 23 → u k = v k) → (∀ a, a < 16 → a < i → tr_set (u 23 a) (fun c => ((E x a ∨ E y a) ∧ (E x c ∨ E y c)) ∨ (¬ (E x a ∨ E y a) ∧ E a c))) → (∀ a, i ≤ a → u 23 a = v 23 a) → P (cd_X9_joinActs.drop 12, [some (.ref 22), some (.int (nI x)), some (.int (nI y)), some (.int (v 23 x ||| v 23 y)), some (.int (nI i))], [], (am_sh, u, w), 0, 0) := by
    intro m
    induction m with
    | zero =>
      intro i u hi hk h1 h2
      ((repeat' first | refine hP _ ?_ | fail); try dsimp only)
      refine ⟨fun _ => ?_, fun c => absurd (nI_le (a := 16) (b := i) (by omega) (by omega)) c⟩
      ((repeat' first | refine hP _ ?_ | fail); try dsimp only)
      exact h u hk (fun a ha => h1 a ha (by omega))
    | succ m ih =>
      intro i u hi hk h1 h2
      ((repeat' first | refine hP _ ?_ | fail); try dsimp only)
      refine ⟨fun c => absurd c (nI_ge (b := 16) (by omega) (by omega)), fun _ => ?_⟩
      ((repeat' first | refine hP _ ?_ | fail); try dsimp only)
      refine ⟨fun c => ?_, fun c => ?_⟩
      · have c := (ts_has hU (b := i) (by omega)).mp c
        ((iterate 2 refine hP _ ?_); try dsimp only)
        rw [nI_1]
        refine ih (i + 1) u (by omega) hk (fun a ha hai => ?_) (fun a ha => h2 a (by omega))
        rcases Nat.lt_or_ge a i with q | q
        · exact h1 a ha q
        · have : a = i := by omega
          subst this
          rw [h2 a (by omega)]
          exact ts_congr (fun b _ => ⟨fun q => Or.inr ⟨c, q⟩, fun q => q.elim (fun z => absurd z.1 c) (fun z => z.2)⟩) (hE a ha)
      · have c : E x i ∨ E y i := Classical.byContradiction (fun q => c ((ts_has hU (b := i) (by omega)).mpr q))
        ((repeat' first | refine hP _ ?_ | fail); try dsimp only)
        refine ⟨vp_in_nI (by omega) (by omega), ?_⟩
        dsimp only
        rw [nI_clamp (by omega)]
        ((iterate 2 refine hP _ ?_); try dsimp only)
        rw [nI_1]
        refine ih (i + 1) _ (by omega) (fun k hk2 => by rw [am_up_ne _ _ _ hk2, hk k hk2]) (fun a ha hai => ?_) (fun a ha => by rw [am_up_eq, if_neg (fun q => by have := q.2; omega), h2 a (by omega)])
        rw [am_up_eq]
        by_cases q : a = i
        · subst q
          rw [if_pos ⟨rfl, rfl⟩]
          exact ts_congr (fun b _ => ⟨fun q => Or.inl ⟨c, q⟩, fun q => q.elim (fun z => z.2) (fun z => absurd c z.1)⟩) hU
        · rw [if_neg (fun z => q z.2)]
          exact h1 a ha (by omega)
  ((repeat' first | refine hP _ ?_ | fail); try dsimp only)
  refine ⟨vp_in_nI (by omega) (by omega), ?_⟩
  ((repeat' first | refine hP _ ?_ | fail); try dsimp only)
  refine ⟨vp_in_nI (by omega) (by omega), ?_⟩
  dsimp only
  rw [nI_clamp (by omega), nI_clamp (by omega)]
  ((iterate 4 refine hP _ ?_); try dsimp only)
  exact key 16 0 v rfl (fun _ _ => rfl) (fun a _ q => absurd q (by omega)) (fun _ _ => rfl)
set_option maxRecDepth 100000 in
set_option maxHeartbeats 4000000 in
theorem m_share {E A : Nat → Nat → Prop} (hE : ∀ a, a < 16 → tr_set (v 23 a) (E a)) (hA : ∀ a, a < 16 → tr_set (v 24 a) (A a)) (hq : E_eqv E) (h : ∀ v' : am_V, (∀ k, k ≠ 24 → v' k = v k) → (∀ a, a < 16 → tr_set (v' 24 a) (shG E A a)) → Q none (am_sh, v', w)) : am_run K I am_m (d + 1) 96 [.ref 22] (am_sh, v, w) 0 0 Q := by
  obtain ⟨q1, q2, q3⟩ := hq
  refine en_X9_shareAhead rfl ?_
  intro P hP
  have key : ∀ (m i : Nat) (u : am_V) (l2 l3 : Option Value), i + m = 16 → (∀ k, k ≠ 24 → u k = v k) → (∀ a, a < 16 → a < i → tr_set (u 24 a) (shG E A a)) → (∀ a, i ≤ a → u 24 a = v 24 a) → P (cd_X9_shareAhead.drop 2, [some (.ref 22), some (.int (nI i)), l2, l3], [], (am_sh, u, w), 0, 0) := by
    intro m
    induction m with
    | zero =>
      intro i u l2 l3 hi hk h1 h2
      ((repeat' first | refine hP _ ?_ | fail); try dsimp only)
      refine ⟨fun _ => ?_, fun c => absurd (nI_le (a := 16) (b := i) (by omega) (by omega)) c⟩
      ((repeat' first | refine hP _ ?_ | fail); try dsimp only)
      exact h u hk (fun a ha => h1 a ha (by omega))
    | succ m ih =>
      intro i u l2 l3 hi hk h1 h2
      have hi16 : i < 16 := by omega
      have cur : ∀ b, b < 16 → tr_set (u 24 b) (fun c => if b < i then shG E A b c else A b c) := by
        intro b hb
        by_cases q : b < i
        · exact ts_congr (fun c _ => by rw [if_pos q]) (h1 b hb q)
        · rw [h2 b (by omega)]
          exact ts_congr (fun c _ => by rw [if_neg q]) (hA b hb)
      have hE' : ∀ b, b < 16 → tr_set (u 23 b) (E b) := fun b hb => by rw [hk 23 (by decide)]; exact hE b hb
      -- the second inner loop
      have in2 : ∀ (m b : Nat) (all : Int32) (S : Nat → Prop), b + m = 16 → tr_set all S → (∀ c, c < 16 → (∃ b', b' < 16 ∧ E i b' ∧ (if b' < i then shG E A b' c else A b' c)) → S c) → (∀ c, c < 16 → S c → ∃ c', c' < 16 ∧ (∃ b', b' < 16 ∧ E i b' ∧ (if b' < i then shG E A b' c' else A b' c')) ∧ E c' c) → (∀ b', b' < b → (∃ b2, b2 < 16 ∧ E i b2 ∧ (if b2 < i then shG E A b2 b' else A b2 b')) → ∀ c, c < 16 → E b' c → S c) → P (cd_X9_shareAhead.drop 32, [some (.ref 22), some (.int (nI i)), some (.int all), some (.int (nI b))], [], (am_sh, u, w), 0, 0) := by
        intro m
        induction m with
        | zero =>
          intro b all S hb hS s1 s2 s3
          ((repeat' first | refine hP _ ?_ | fail); try dsimp only)
          refine ⟨fun _ => ?_, fun c => absurd (nI_le (a := 16) (b := b) (by omega) (by omega)) c⟩
          ((repeat' first | refine hP _ ?_ | fail); try dsimp only)
          refine ⟨vp_in_nI (by omega) (by omega), ?_⟩
          dsimp only
          rw [nI_clamp (by omega)]
          ((iterate 2 refine hP _ ?_); try dsimp only)
          rw [nI_1]
          refine ih (i + 1) _ _ _ (by omega) (fun k hk2 => by rw [am_up_ne _ _ _ hk2, hk k hk2]) (fun a ha hai => ?_) (fun a ha => by rw [am_up_eq, if_neg (fun q => by have := q.2; omega), h2 a (by omega)])
          rw [am_up_eq]
          by_cases q : a = i
          · subst q
            rw [if_pos ⟨rfl, rfl⟩]
            refine ts_congr (fun c hc => ⟨fun t => ?_, fun t => ?_⟩) hS
            · obtain ⟨c', hc', ⟨b', hb', e1, e2⟩, e3⟩ := s2 c hc t
              by_cases g : b' < a
              · rw [if_pos g] at e2
                obtain ⟨b2, c2, g1, g2, g3, g4, g5⟩ := e2
                exact ⟨b2, c2, g1, g2, q3 a b' b2 ha hb' g1 e1 g3, g4, q3 c2 c' c g2 hc' hc g5 e3⟩
              · rw [if_neg g] at e2
                exact ⟨b', c', hb', hc', e1, e2, e3⟩
            · obtain ⟨b', c', hb', hc', e1, e2, e3⟩ := t
              refine s3 c' (by omega) ⟨b', hb', e1, ?_⟩ c hc e3
              by_cases g : b' < a
              · rw [if_pos g]
                exact ⟨b', c', hb', hc', q1 b' hb', e2, q1 c' hc'⟩
              · rw [if_neg g]
                exact e2
          · rw [if_neg (fun z => q z.2)]
            exact h1 a ha (by omega)
        | succ m ih2 =>
          intro b all S hb hS s1 s2 s3
          have hb16 : b < 16 := by omega
          ((repeat' first | refine hP _ ?_ | fail); try dsimp only)
          refine ⟨fun c => absurd c (nI_ge (b := 16) (by omega) (by omega)), fun _ => ?_⟩
          ((repeat' first | refine hP _ ?_ | fail); try dsimp only)
          refine ⟨fun c => ?_, fun c => ?_⟩
          · have c := (ts_has hS (b := b) hb16).mp c
            ((iterate 2 refine hP _ ?_); try dsimp only)
            rw [nI_1]
            refine ih2 (b + 1) all S (by omega) hS s1 s2 (fun b' hb' t c' hc' e => ?_)
            rcases Nat.lt_or_ge b' b with q | q
            · exact s3 b' q t c' hc' e
            · have : b' = b := by omega
              subst this
              exact absurd (s1 b' hb16 t) c
          · have c : S b := Classical.byContradiction (fun q => c ((ts_has hS (b := b) hb16).mpr q))
            ((repeat' first | refine hP _ ?_ | fail); try dsimp only)
            refine ⟨vp_in_nI (by omega) (by omega), ?_⟩
            dsimp only
            rw [nI_clamp (by omega)]
            ((iterate 4 refine hP _ ?_); try dsimp only)
            rw [nI_1]
            refine ih2 (b + 1) _ (fun c => S c ∨ E b c) (by omega) (ts_or hS (hE' b hb16)) (fun c hc t => Or.inl (s1 c hc t)) (fun c2 hc2 t => ?_) (fun b' hb' t c' hc' e => ?_)
            · rcases t with t | t
              · exact s2 c2 hc2 t
              · obtain ⟨c', hc', g1, g2⟩ := s2 b hb16 c
                exact ⟨c', hc', g1, q3 c' b c2 hc' hb16 hc2 g2 t⟩
            · rcases Nat.lt_or_ge b' b with q | q
              · exact Or.inl (s3 b' q t c' hc' e)
              · have : b' = b := by omega
                subst this
                exact Or.inr e
      -- the first inner loop
      have in1 : ∀ (m b : Nat) (all : Int32), b + m = 16 → tr_set all (fun c => ∃ b', b' < b ∧ E i b' ∧ (if b' < i then shG E A b' c else A b' c)) → P (cd_X9_shareAhead.drop 9, [some (.ref 22), some (.int (nI i)), some (.int all), some (.int (nI b))], [], (am_sh, u, w), 0, 0) := by
        intro m
        induction m with
        | zero =>
          intro b all hb hS
          have hb : b = 16 := by omega
          subst hb
          ((repeat' first | refine hP _ ?_ | fail); try dsimp only)
          refine ⟨fun _ => ?_, fun c => absurd (nI_le (a := 16) (b := 16) (by omega) (by omega)) c⟩
          ((iterate 2 refine hP _ ?_); try dsimp only)
          refine in2 16 0 all _ rfl hS (fun c _ t => t) (fun c hc t => ⟨c, hc, t, q1 c hc⟩) (fun b' hb' => absurd hb' (by omega))
        | succ m ih1 =>
          intro b all hb hS
          have hb16 : b < 16 := by omega
          ((repeat' first | refine hP _ ?_ | fail); try dsimp only)
          refine ⟨fun c => absurd c (nI_ge (b := 16) (by omega) (by omega)), fun _ => ?_⟩
          ((repeat' first | refine hP _ ?_ | fail); try dsimp only)
          refine ⟨vp_in_nI (by omega) (by omega), ?_⟩
          ((repeat' first | refine hP _ ?_ | fail); try dsimp only)
          rw [nI_clamp (by omega)]
          refine ⟨fun c => ?_, fun c => ?_⟩
          · have c := (ts_has (hE' i hi16) (b := b) hb16).mp c
            ((iterate 2 refine hP _ ?_); try dsimp only)
            rw [nI_1]
            refine ih1 (b + 1) all (by omega) (ts_congr (fun c2 _ => ⟨fun ⟨b', t1, t2⟩ => ⟨b', by omega, t2⟩, fun ⟨b', t1, t2⟩ => ?_⟩) hS)
            rcases Nat.lt_or_ge b' b with q | q
            · exact ⟨b', q, t2⟩
            · have : b' = b := by omega
              subst this
              exact absurd t2.1 c
          · have c : E i b := Classical.byContradiction (fun q => c ((ts_has (hE' i hi16) (b := b) hb16).mpr q))
            ((repeat' first | refine hP _ ?_ | fail); try dsimp only)
            refine ⟨vp_in_nI (by omega) (by omega), ?_⟩
            dsimp only
            rw [nI_clamp (by omega)]
            ((iterate 4 refine hP _ ?_); try dsimp only)
            rw [nI_1]
            refine ih1 (b + 1) _ (by omega) (ts_congr (fun c2 _ => ⟨fun t => ?_, fun ⟨b', t1, t2⟩ => ?_⟩) (ts_or hS (cur b hb16)))
            · rcases t with ⟨b', t1, t2⟩ | t
              · exact ⟨b', by omega, t2⟩
              · exact ⟨b, by omega, c, t⟩
            · rcases Nat.lt_or_ge b' b with q | q
              · exact Or.inl ⟨b', q, t2⟩
              · have : b' = b := by omega
                subst this
                exact Or.inr t2.2
      ((repeat' first | refine hP _ ?_ | fail); try dsimp only)
      refine ⟨fun c => absurd c (nI_ge (b := 16) (by omega) (by omega)), fun _ => ?_⟩
      ((iterate 4 refine hP _ ?_); try dsimp only)
      exact in1 16 0 0 rfl (ts_congr (fun c _ => ⟨fun t => t.elim, fun ⟨b', t1, _⟩ => absurd t1 (by omega)⟩) ts_0)
  ((iterate 2 refine hP _ ?_); try dsimp only)
  exact key 16 0 v none none rfl (fun _ _ => rfl) (fun a _ q => absurd q (by omega)) (fun _ _ => rfl)
set_option maxRecDepth 100000 in
set_option maxHeartbeats 4000000 in
theorem m_close {R : Nat → Nat → Prop} (hR : ∀ a, a < 16 → tr_set (v 24 a) (R a)) (h : ∀ v' : am_V, (∀ k, k ≠ 24 → v' k = v k) → (∀ a, a < 16 → tr_set (v' 24 a) (fwR R 16 a)) → Q none (am_sh, v', w)) : am_run K I am_m (d + 1) 97 [.ref 22] (am_sh, v, w) 0 0 Q := by
  refine en_X9_closeAhead rfl ?_
  intro P hP
  have key : ∀ (m k : Nat) (u : am_V) (l2 : Option Value), k + m = 16 → (∀ k, k ≠ 24 → u k = v k) → (∀ a, a < 16 → tr_set (u 24 a) (fwR R k a)) → P (cd_X9_closeAhead.drop 2, [some (.ref 22), some (.int (nI k)), l2], [], (am_sh, u, w), 0, 0) := by
    intro m
    induction m with
    | zero =>
      intro k u l2 hk hf h1
      have hk : k = 16 := by omega
      subst hk
      ((repeat' first | refine hP _ ?_ | fail); try dsimp only)
      refine ⟨fun _ => ?_, fun c => absurd (nI_le (a := 16) (b := 16) (by omega) (by omega)) c⟩
      ((repeat' first | refine hP _ ?_ | fail); try dsimp only)
      exact h u hf h1
    | succ m ih =>
      intro k u l2 hk hf h1
      have hk16 : k < 16 := by omega
      have inn : ∀ (m i : Nat) (u : am_V), i + m = 16 → (∀ k, k ≠ 24 → u k = v k) → (∀ a, a < 16 → tr_set (u 24 a) (fun c => if a < i then fwR R (k + 1) a c else fwR R k a c)) → P (cd_X9_closeAhead.drop 7, [some (.ref 22), some (.int (nI k)), some (.int (nI i))], [], (am_sh, u, w), 0, 0) := by
        intro m
        induction m with
        | zero =>
          intro i u hi hf h1
          ((repeat' first | refine hP _ ?_ | fail); try dsimp only)
          refine ⟨fun _ => ?_, fun c => absurd (nI_le (a := 16) (b := i) (by omega) (by omega)) c⟩
          ((iterate 2 refine hP _ ?_); try dsimp only)
          rw [nI_1]
          exact ih (k + 1) u _ (by omega) hf (fun a ha => ts_congr (fun c _ => by rw [if_pos (by omega)]) (h1 a ha))
        | succ m ih2 =>
          intro i u hi hf h1
          have hi16 : i < 16 := by omega
          have ci : tr_set (u 24 i) (fwR R k i) := ts_congr (fun c _ => by rw [if_neg (by omega)]) (h1 i hi16)
          have ck : tr_set (u 24 k) (fwR R k k) := ts_congr (fun c _ => by
            by_cases q : k < i
            · rw [if_pos q]
              exact ⟨fun t => t.elim id (fun z => z.2), Or.inl⟩
            · rw [if_neg q]) (h1 k hk16)
          ((repeat' first | refine hP _ ?_ | fail); try dsimp only)
          refine ⟨fun c => absurd c (nI_ge (b := 16) (by omega) (by omega)), fun _ => ?_⟩
          ((repeat' first | refine hP _ ?_ | fail); try dsimp only)
          refine ⟨vp_in_nI (by omega) (by omega), ?_⟩
          ((repeat' first | refine hP _ ?_ | fail); try dsimp only)
          rw [nI_clamp (by omega)]
          refine ⟨fun c => ?_, fun c => ?_⟩
          · have c := (ts_has ci (b := k) hk16).mp c
            ((iterate 2 refine hP _ ?_); try dsimp only)
            rw [nI_1]
            refine ih2 (i + 1) u (by omega) hf (fun a ha => ?_)
            by_cases q : a = i
            · subst q
              refine ts_congr (fun c2 _ => ?_) ci
              rw [if_pos (by omega)]
              exact ⟨Or.inl, fun t => t.elim id (fun z => absurd z.1 c)⟩
            · refine ts_congr (fun c2 _ => ?_) (h1 a ha)
              by_cases g : a < i
              · rw [if_pos g, if_pos (by omega)]
              · rw [if_neg g, if_neg (by omega)]
          · have c : fwR R k i k := Classical.byContradiction (fun q => c ((ts_has ci (b := k) hk16).mpr q))
            ((repeat' first | refine hP _ ?_ | fail); try dsimp only)
            refine ⟨vp_in_nI (by omega) (by omega), ?_⟩
            ((repeat' first | refine hP _ ?_ | fail); try dsimp only)
            refine ⟨vp_in_nI (by omega) (by omega), ?_⟩
            ((repeat' first | refine hP _ ?_ | fail); try dsimp only)
            refine ⟨vp_in_nI (by omega) (by omega), ?_⟩
            dsimp only
            rw [nI_clamp (by omega), nI_clamp (by omega)]
            ((iterate 2 refine hP _ ?_); try dsimp only)
            rw [nI_1]
            refine ih2 (i + 1) _ (by omega) (fun k hk2 => by rw [am_up_ne _ _ _ hk2, hf k hk2]) (fun a ha => ?_)
            rw [am_up_eq]
            by_cases q : a = i
            · subst q
              rw [if_pos ⟨rfl, rfl⟩]
              refine ts_congr (fun c2 _ => ?_) (ts_or ci ck)
              rw [if_pos (by omega)]
              exact ⟨fun t => t.elim Or.inl (fun z => Or.inr ⟨c, z⟩), fun t => t.elim Or.inl (fun z => Or.inr z.2)⟩
            · rw [if_neg (fun z => q z.2)]
              refine ts_congr (fun c2 _ => ?_) (h1 a ha)
              by_cases g : a < i
              · rw [if_pos g, if_pos (by omega)]
              · rw [if_neg g, if_neg (by omega)]
      ((repeat' first | refine hP _ ?_ | fail); try dsimp only)
      refine ⟨fun c => absurd c (nI_ge (b := 16) (by omega) (by omega)), fun _ => ?_⟩
      ((iterate 2 refine hP _ ?_); try dsimp only)
      exact inn 16 0 u rfl hf (fun a ha => ts_congr (fun c _ => by rw [if_neg (by omega)]) (h1 a ha))
  ((iterate 2 refine hP _ ?_); try dsimp only)
  exact key 16 0 v none rfl (fun _ _ => rfl) hR
/-- what the class knows of lines that agree -/
def tr_know (v : am_V) (ls : List tr_L) : Prop := ∀ a, a < 16 → tr_set (v 23 a) (tr_eq ls a) ∧ tr_set (v 24 a) (fun c => tr_ah ls c a)
set_option maxRecDepth 100000 in
set_option maxHeartbeats 4000000 in
theorem m_agrees {ls : List tr_L} {x y : Nat} {e : Bool} (hl : tr_16 (ls ++ [(x, y, e)])) (hk : tr_know v ls) {sg : Int32} (hsg : sg = 61 ↔ e = true) (h0 : tr_con (ls ++ [(x, y, e)]) → ∀ v' : am_V, (∀ k, k ≠ 23 → k ≠ 24 → v' k = v k) → Q (some (.int 0)) (am_sh, v', w)) (h1 : ¬ tr_con (ls ++ [(x, y, e)]) → ∀ v' : am_V, (∀ k, k ≠ 23 → k ≠ 24 → v' k = v k) → tr_know v' (ls ++ [(x, y, e)]) → Q (some (.int 1)) (am_sh, v', w)) : am_run K I am_m (d + 2) 94 [.ref 22, .int (nI x), .int sg, .int (nI y)] (am_sh, v, w) 0 0 Q := by
  have hxy := hl x y e (List.mem_append_right _ (by simp))
  have hl0 : tr_16 ls := fun p q t h => hl p q t (List.mem_append_left _ h)
  refine en_X9_agrees rfl ?_
  intro P hP
  -- behind the line
  have go : ∀ (u : am_V) (E A : Nat → Nat → Prop), (∀ k, k ≠ 23 → k ≠ 24 → u k = v k) → (∀ a, a < 16 → tr_set (u 23 a) (E a)) → (∀ a, a < 16 → tr_set (u 24 a) (A a)) → (∀ a c, a < 16 → c < 16 → (A a c ↔ (tr_ah ls c a ∨ (e = false ∧ a = y ∧ c = x)))) → (∀ a c, a < 16 → c < 16 → (E a c ↔ tr_eq (ls ++ [(x, y, e)]) a c)) → P (cd_X9_agrees.drop 30, [some (.ref 22), some (.int (nI x)), some (.int sg), some (.int (nI y)), none], [], (am_sh, u, w), 0, 0) := by
    intro u E A hu hE hA hA2 hE2
    ((repeat' first | refine hP _ ?_ | fail); try dsimp only)
    refine m_share hE hA ⟨fun a ha => (hE2 a a ha ha).mpr tr_eq_rf, fun a b ha hb t => (hE2 b a hb ha).mpr (tr_eq_sy ((hE2 a b ha hb).mp t)), fun a b c ha hb hc t1 t2 => (hE2 a c ha hc).mpr (tr_eq_tr ((hE2 a b ha hb).mp t1) ((hE2 b c hb hc).mp t2))⟩ (fun u1 f1 g1 => ?_)
    ((repeat' first | refine hP _ ?_ | fail); try dsimp only)
    refine m_close g1 (fun u2 f2 g2 => ?_)
    have fu : ∀ k, k ≠ 23 → k ≠ 24 → u2 k = v k := fun k k1 k2 => by rw [f2 k k2, f1 k k2, hu k k1 k2]
    have kn : tr_know u2 (ls ++ [(x, y, e)]) := fun a ha => ⟨by
      rw [f2 23 (by decide), f1 23 (by decide)]
      exact ts_congr (fun c hc => hE2 a c ha hc) (hE a ha), ts_congr (fun c hc => tr_ah_app hl hA2 hE2 ha hc) (g2 a ha)⟩
    have key : ∀ (m i : Nat), i + m = 16 → (∀ a, a < i → ∀ b, b < 16 → ¬ (tr_ah (ls ++ [(x, y, e)]) b a ∧ tr_eq (ls ++ [(x, y, e)]) a b)) → P (cd_X9_agrees.drop 36, [some (.ref 22), some (.int (nI x)), some (.int sg), some (.int (nI y)), some (.int (nI i))], [], (am_sh, u2, w), 0, 0) := by
      intro m
      induction m with
      | zero =>
        intro i hi hn
        ((repeat' first | refine hP _ ?_ | fail); try dsimp only)
        refine ⟨fun _ => ?_, fun c => absurd (nI_le (a := 16) (b := i) (by omega) (by omega)) c⟩
        ((repeat' first | refine hP _ ?_ | fail); try dsimp only)
        refine ⟨Or.inr rfl, h1 ?_ u2 fu kn⟩
        rintro ⟨a, ha⟩
        have := tr_ah_16 hl ha
        exact hn a (by omega) a (by omega) ⟨ha, tr_eq_rf⟩
      | succ m ih =>
        intro i hi hn
        have ki := kn i (by omega)
        ((repeat' first | refine hP _ ?_ | fail); try dsimp only)
        refine ⟨fun c => absurd c (nI_ge (b := 16) (by omega) (by omega)), fun _ => ?_⟩
        ((repeat' first | refine hP _ ?_ | fail); try dsimp only)
        refine ⟨vp_in_nI (by omega) (by omega), ?_⟩
        ((repeat' first | refine hP _ ?_ | fail); try dsimp only)
        refine ⟨vp_in_nI (by omega) (by omega), ?_⟩
        ((repeat' first | refine hP _ ?_ | fail); try dsimp only)
        rw [nI_clamp (by omega)]
        refine ⟨fun c => ?_, fun c => ?_⟩
        · have c := (ts_and0 ki.2 ki.1).mp c
          ((iterate 2 refine hP _ ?_); try dsimp only)
          rw [nI_1]
          refine ih (i + 1) (by omega) (fun a ha b hb => ?_)
          rcases Nat.lt_or_ge a i with q | q
          · exact hn a q b hb
          · have : a = i := by omega
            subst this
            exact c b hb
        · ((repeat' first | refine hP _ ?_ | fail); try dsimp only)
          refine ⟨Or.inl rfl, h0 ?_ u2 fu⟩
          refine Classical.byContradiction (fun nc => c ((ts_and0 ki.2 ki.1).mpr (fun b hb q => nc ⟨b, tr_ah_r q.2 q.1⟩)))
    ((iterate 2 refine hP _ ?_); try dsimp only)
    exact key 16 0 rfl (fun a ha => absurd ha (by omega))
  have hin : ∀ z : Nat, z < 16 → (0 : Int32) ≤ nI z ∧ nI z ≤ 15 := fun z hz => ⟨nI_pos' (by omega), nI_le (b := 15) (by omega) (by omega)⟩
  ((repeat' first | refine hP _ ?_ | fail); try dsimp only)
  refine m_X11_outside (fun c => (am_no c (hin x hxy.1).1 (hin x hxy.1).2).elim) (fun _ _ => ?_)
  ((repeat' first | refine hP _ ?_ | fail); try dsimp only)
  refine ⟨fun c => absurd rfl c, fun _ => ?_⟩
  ((repeat' first | refine hP _ ?_ | fail); try dsimp only)
  refine m_X11_outside (fun c => (am_no c (hin y hxy.2).1 (hin y hxy.2).2).elim) (fun _ _ => ?_)
  ((repeat' first | refine hP _ ?_ | fail); try dsimp only)
  refine ⟨fun _ => ?_, fun c => absurd rfl c⟩
  ((repeat' first | refine hP _ ?_ | fail); try dsimp only)
  cases e with
  | true =>
    rw [hsg.mpr rfl]
    refine ⟨fun c => absurd rfl c, fun _ => ?_⟩
    ((repeat' first | refine hP _ ?_ | fail); try dsimp only)
    refine m_join (E := tr_eq ls) hxy.1 hxy.2 (fun a ha => (hk a ha).1) (fun u f g => ?_)
    ((iterate 1 refine hP _ ?_); try dsimp only)
    rw [hsg.mpr rfl] at go
    refine go u _ (fun a c => tr_ah ls c a) (fun k k1 _ => f k k1) g (fun a ha => by rw [f 24 (by decide)]; exact (hk a ha).2) (fun a c _ _ => ⟨Or.inl, fun t => t.elim id (fun z => absurd z.1 (by decide))⟩) (fun a c _ _ => tr_eq_app_t.symm)
  | false =>
    have hs : ¬ sg = 61 := fun q => absurd (hsg.mp q) (by decide)
    refine ⟨fun _ => ?_, fun c => absurd c hs⟩
    ((repeat' first | refine hP _ ?_ | fail); try dsimp only)
    refine ⟨vp_in_nI (by omega) (by omega), ?_⟩
    ((repeat' first | refine hP _ ?_ | fail); try dsimp only)
    refine ⟨vp_in_nI (by omega) (by omega), ?_⟩
    dsimp only
    rw [nI_clamp (by omega)]
    refine go _ (tr_eq ls) (fun a c => tr_ah ls c a ∨ (a = y ∧ c = x)) (fun k _ k2 => by rw [am_up_ne _ _ _ k2]) (fun a ha => by rw [am_up_ne _ _ _ (by decide)]; exact (hk a ha).1) (fun a ha => ?_) (fun a c _ _ => ⟨fun t => t.elim Or.inl (fun z => Or.inr ⟨rfl, z⟩), fun t => t.elim Or.inl (fun z => Or.inr z.2)⟩) (fun a c _ _ => tr_eq_app_f.symm)
    rw [am_up_eq]
    by_cases q : a = y
    · subst q
      rw [if_pos ⟨rfl, rfl⟩]
      exact ts_congr (fun c _ => ⟨fun t => t.elim Or.inl (fun z => Or.inr ⟨rfl, z⟩), fun t => t.elim Or.inl (fun z => Or.inr z.2)⟩) (ts_or (hk a ha).2 (ts_bit hxy.1))
    · rw [if_neg (fun z => q z.2)]
      exact ts_congr (fun c _ => ⟨Or.inl, fun t => t.elim id (fun z => absurd z.1 q)⟩) (hk a ha).2
end M80
