/-! ===== orders: obeyed by the class; read by the reference ===== -/
theorem ordL_ok {T : Nat → Int32} {n k p p1 : Nat} {o : od_O} (h : ordL T n k p = .ok (p1, o)) : p + 2 ≤ p1 ∧ p1 ≤ n ∧ od_ok o := by
  unfold ordL at h
  cases ho : onl whL (cc T n p) with
  | false =>
    rw [ho, if_pos rfl] at h
    exact absurd h (by simp)
  | true =>
  rw [ho, if_neg (by decide)] at h
  by_cases hk : 20 ≤ k
  · rw [if_pos hk] at h
    exact absurd h (by simp)
  rw [if_neg hk] at h
  cases ho2 : onl wtL (cc T n (p + 1)) with
  | false =>
    rw [ho2, if_pos rfl] at h
    exact absurd h (by simp)
  | true =>
  have hp := onl_lt wt_m1 ho2
  rw [ho2, if_neg (by decide)] at h
  by_cases q : cc T n (p + 1) = 104 ∨ cc T n (p + 1) = 111
  · rw [if_pos q] at h
    have e : p + 2 = p1 ∧ (cc T n p, cc T n (p + 1), 0) = o := by simpa using h
    refine ⟨by omega, by omega, ?_⟩
    rw [← e.2]
    exact ⟨ho, ho2, by show 0 < 1000; decide, fun _ => by show 0 ≤ 90; decide⟩
  rw [if_neg q] at h
  cases he : numF T n 3 (p + 2) with
  | error e =>
    rw [he] at h
    exact absurd h (by simp)
  | ok y =>
  obtain ⟨q1, x⟩ := y
  rw [he] at h
  dsimp only at h
  obtain ⟨a, b, c⟩ := numF_ok (by omega) he
  by_cases z : cc T n (p + 1) = 98 ∧ 90 < x
  · rw [if_pos z] at h
    exact absurd h (by simp)
  rw [if_neg z] at h
  have e : q1 = p1 ∧ (cc T n p, cc T n (p + 1), x) = o := by simpa using h
  refine ⟨by omega, by omega, ?_⟩
  rw [← e.2]
  exact ⟨ho, ho2, c, fun g => by
    show x ≤ 90
    rcases Nat.lt_or_ge 90 x with t | t
    · exact absurd ⟨g, t⟩ z
    · exact t⟩
theorem ordL_er {T : Nat → Int32} {n k p : Nat} {e : Nat × Nat} (hp : p ≤ n) (h : ordL T n k p = .error e) : 1 ≤ e.1 ∧ e.1 ≤ 6 ∧ e.2 ≤ n + 2 := by
  unfold ordL at h
  cases ho : onl whL (cc T n p) with
  | false =>
    rw [ho, if_pos rfl] at h
    have e : (1, p) = e := by simpa using h
    subst e
    exact ⟨by show 1 ≤ 1; decide, by show 1 ≤ 6; decide, by show p ≤ n + 2; omega⟩
  | true =>
  have hp1 := onl_lt wh_m1 ho
  rw [ho, if_neg (by decide)] at h
  by_cases hk : 20 ≤ k
  · rw [if_pos hk] at h
    have e : (4, p) = e := by simpa using h
    subst e
    exact ⟨by show 1 ≤ 4; decide, by show 4 ≤ 6; decide, by show p ≤ n + 2; omega⟩
  rw [if_neg hk] at h
  cases ho2 : onl wtL (cc T n (p + 1)) with
  | false =>
    rw [ho2, if_pos rfl] at h
    have e : (1, p + 1) = e := by simpa using h
    subst e
    exact ⟨by show 1 ≤ 1; decide, by show 1 ≤ 6; decide, by show p + 1 ≤ n + 2; omega⟩
  | true =>
  have hp2 := onl_lt wt_m1 ho2
  rw [ho2, if_neg (by decide)] at h
  by_cases q : cc T n (p + 1) = 104 ∨ cc T n (p + 1) = 111
  · rw [if_pos q] at h
    exact absurd h (by simp)
  rw [if_neg q] at h
  cases he : numF T n 3 (p + 2) with
  | error e' =>
    rw [he] at h
    have e2 : e' = e := by simpa using h
    subst e2
    obtain ⟨a, b, c⟩ := numF_er (by omega) he
    exact ⟨a, b, by omega⟩
  | ok y =>
  obtain ⟨q1, x⟩ := y
  rw [he] at h
  dsimp only at h
  by_cases z : cc T n (p + 1) = 98 ∧ 90 < x
  · rw [if_pos z] at h
    have e : (3, p + 2) = e := by simpa using h
    subst e
    exact ⟨by show 1 ≤ 3; decide, by show 3 ≤ 6; decide, by show p + 2 ≤ n + 2; omega⟩
  · rw [if_neg z] at h
    exact absurd h (by simp)
/-- a fault's number is no count -/
theorem flt_neg {e : Nat × Nat} (h1 : 1 ≤ e.1) (h2 : e.1 ≤ 6) (h3 : e.2 ≤ 300) : flt e ≤ 0 := by
  unfold flt
  have a : (nI e.1).toInt = e.1 := nI_toInt (by omega)
  have b : (nI e.2).toInt = e.2 := nI_toInt (by omega)
  have c : (-1000 * nI e.1).toInt = -1000 * e.1 := by
    rw [Int32.toInt_mul, a, show (-1000 : Int32).toInt = -1000 from rfl, Int.bmod_eq_of_le (by omega) (by omega)]
  rw [Int32.le_iff_toInt_le, ii_sub (by omega) (by omega) (by omega) (by omega), c, b, show (0 : Int32).toInt = 0 from rfl]
  omega
/-- a text's fault -/
theorem txF_er {σ : Type} {L : Nat → Nat → σ → Except (Nat × Nat) (Nat × σ)} {T : Nat → Int32} {n : Nat} (hL : ∀ k p s e, p ≤ n → L k p s = .error e → 1 ≤ e.1 ∧ e.1 ≤ 6 ∧ e.2 ≤ n + 2) (hL2 : ∀ k p s p1 s1, p ≤ n → L k p s = .ok (p1, s1) → p1 ≤ n) : ∀ (f k p : Nat) (s : σ) (e : Nat × Nat), p ≤ n → txF L T n f k p s = .error e → 1 ≤ e.1 ∧ e.1 ≤ 6 ∧ e.2 ≤ n + 2
  | 0, k, p, s, e, hp, h => by
    have e : (1, p) = e := by simpa [txF] using h
    subst e
    exact ⟨by show 1 ≤ 1; decide, by show 1 ≤ 6; decide, by show p ≤ n + 2; omega⟩
  | f + 1, k, p, s, e, hp, h => by
    unfold txF at h
    cases hl : L k p s with
    | error e' =>
      rw [hl] at h
      have e2 : e' = e := by simpa using h
      subst e2
      exact hL k p s e' hp hl
    | ok y =>
      obtain ⟨p1, s1⟩ := y
      have hp1 := hL2 k p s p1 s1 hp hl
      rw [hl] at h
      dsimp only at h
      by_cases c : n ≤ p1
      · rw [if_pos c] at h
        exact absurd h (by simp)
      rw [if_neg c] at h
      by_cases g : cc T n p1 = 59
      · rw [if_pos g] at h
        exact txF_er hL hL2 f (k + 1) (p1 + 1) s1 e (by omega) h
      · rw [if_neg g] at h
        have e : (1, p1) = e := by simpa using h
        subst e
        exact ⟨by show 1 ≤ 1; decide, by show 1 ≤ 6; decide, by show p1 ≤ n + 2; omega⟩
theorem txF_k {σ : Type} {L : Nat → Nat → σ → Except (Nat × Nat) (Nat × σ)} {T : Nat → Int32} {n : Nat} : ∀ (f k p : Nat) (s : σ) (k1 : Nat) (s1 : σ), txF L T n f k p s = .ok (k1, s1) → k < k1
  | 0, k, p, s, k1, s1, h => absurd h (by simp [txF])
  | f + 1, k, p, s, k1, s1, h => by
    unfold txF at h
    cases hl : L k p s with
    | error e' =>
      rw [hl] at h
      exact absurd h (by simp)
    | ok y =>
      obtain ⟨p1, s2⟩ := y
      rw [hl] at h
      dsimp only at h
      by_cases c : n ≤ p1
      · rw [if_pos c] at h
        have e : k + 1 = k1 ∧ s2 = s1 := by simpa using h
        omega
      rw [if_neg c] at h
      by_cases g : cc T n p1 = 59
      · rw [if_pos g] at h
        have := txF_k f (k + 1) (p1 + 1) s2 k1 s1 h
        omega
      · rw [if_neg g] at h
        exact absurd h (by simp)
section M76
variable {K : am_K} {I : am_I} {d : Nat} {v : am_V} {w : am_X} {Q : Option Value → am_H → Prop}
set_option maxRecDepth 100000 in
set_option maxHeartbeats 4000000 in
theorem m_appease {x : Nat} (hx : x = 31 ∨ x = 32) {s : Int32} (h : Q none (am_sh, am_up v x 2 (f_mx 0 (v x 2 - s)), w)) : am_run K I am_m (d + 1) 21 [.ref x, .int s] (am_sh, v, w) 0 0 Q := by
  rcases hx with rfl | rfl
  all_goals
    refine en_X1_appease rfl ?_
    intro P hP
    ((repeat' first | refine hP _ ?_ | fail); try dsimp only)
    exact h
theorem mt_ob1 {r : Nat → Int32} {k a : Nat} (hka : (k = 0 ∧ a = 31) ∨ (k = 1 ∧ a = 32)) {c : Int32} {x : Nat} (hm : mt v 30 31 32 r) (hc : onl wtL c = true) {f : Nat} {y : Int32} (hf : (c = 102 ∧ f = 0 ∧ y = f_mx 0 (r k - nI x)) ∨ (c = 98 ∧ f = 1 ∧ y = nI x) ∨ (c = 104 ∧ f = 3 ∧ y = 1) ∨ (c = 111 ∧ f = 3 ∧ y = 0) ∨ (c = 97 ∧ f = 2 ∧ y = f_mx 0 (r (4 + k) - nI x))) : mt (am_up v a f y) 30 31 32 (ob1 k c x r) := by
  obtain ⟨⟨a0, b0, a1, b1, a2, b2⟩, ⟨a3, b3, a4, b4, a5, b5⟩, c2, c3⟩ := hm
  rcases hka with ⟨rfl, rfl⟩ | ⟨rfl, rfl⟩
  all_goals
    rcases hf with ⟨rfl, rfl, rfl⟩ | ⟨rfl, rfl, rfl⟩ | ⟨rfl, rfl, rfl⟩ | ⟨rfl, rfl, rfl⟩ | ⟨rfl, rfl, rfl⟩
    all_goals
      simp [mt, ob1, am_up_eq, a0, b0, a1, b1, a2, b2, a3, b3, a4, b4, a5, b5, c2, c3]
set_option maxRecDepth 100000 in
set_option maxHeartbeats 4000000 in
theorem m_obeyLine_0 {i : Nat} (hi : i < 20) {r : Nat → Int32} {o : od_O} (hm : mt v 30 31 32 r) (ho : od_ok o) (h2 : v 20 i = o.2.1) (h3 : (o.2.1 = 104 ∨ o.2.1 = 111) ∨ v 21 i = nI o.2.2) (h : ∀ v' : am_V, (∀ c, c ≠ 31 → c ≠ 32 → v' c = v c) → mt v' 30 31 32 (ob1 0 o.2.1 o.2.2 r) → Q none (am_sh, v', w)) : am_run K I am_m (d + 2) 74 [.ref 18, .int (nI i), .ref (31 + 0)] (am_sh, v, w) 0 0 Q := by
  have hm' := hm
  obtain ⟨⟨a0, b0, a1, b1, a2, b2⟩, -⟩ := hm'
  have up : ∀ (f : Nat) (y : Int32) (c : Nat), c ≠ 31 → c ≠ 32 → am_up v (31 + 0) f y c = v c := fun f y c h1 h2 => by rw [am_up_ne _ _ _ (by omega)]
  have ka : (0 = 0 ∧ 31 + 0 = 31) ∨ (0 = 1 ∧ 31 + 0 = 32) := by decide
  obtain ⟨wh, c, x⟩ := o
  dsimp only at h2 h3 h
  have hc : onl wtL c = true := ho.2.1
  refine en_X6_obeyLine rfl ?_
  intro P hP
  ((repeat' first | refine hP _ ?_ | fail); try dsimp only)
  refine ⟨vp_in_nI (by omega) (by omega), ?_⟩
  ((repeat' first | refine hP _ ?_ | fail); try dsimp only)
  rw [nI_clamp (by omega), h2]
  have nx : ¬ (c = 104 ∨ c = 111) → v 21 i = nI x := fun q => h3.elim (fun z => absurd z q) id
  rcases wt_5 hc with rfl | rfl | rfl | rfl | rfl
  · have e := nx (by decide)
    refine ⟨fun z => absurd z (by decide), fun _ => ⟨fun _ => ?_, fun z => absurd (by decide) z⟩⟩
    ((repeat' first | refine hP _ ?_ | fail); try dsimp only)
    refine ⟨vp_in_nI (by omega) (by omega), ?_⟩
    ((repeat' first | refine hP _ ?_ | fail); try dsimp only)
    rw [nI_clamp (by omega), e]
    refine m_goFwd (by unfold kg4; decide) ?_
    ((repeat' first | refine hP _ ?_ | fail); try dsimp only)
    exact h _ (up _ _) (mt_ob1 ka hm hc (Or.inl ⟨rfl, rfl, by first | rw [a0] | rw [b0]⟩))
  · have e := nx (by decide)
    refine ⟨fun _ => ?_, fun z => absurd (by decide) z⟩
    ((repeat' first | refine hP _ ?_ | fail); try dsimp only)
    refine ⟨vp_in_nI (by omega) (by omega), ?_⟩
    ((repeat' first | refine hP _ ?_ | fail); try dsimp only)
    rw [nI_clamp (by omega), e]
    exact h _ (up _ _) (mt_ob1 ka hm hc (Or.inr (Or.inl ⟨rfl, rfl, rfl⟩)))
  · refine ⟨fun z => absurd z (by decide), fun _ => ⟨fun z => absurd z (by decide), fun _ => ⟨fun _ => ?_, fun z => absurd (by decide) z⟩⟩⟩
    ((repeat' first | refine hP _ ?_ | fail); try dsimp only)
    refine ⟨Or.inr rfl, ?_⟩
    ((repeat' first | refine hP _ ?_ | fail); try dsimp only)
    exact h _ (up _ _) (mt_ob1 ka hm hc (Or.inr (Or.inr (Or.inl ⟨rfl, rfl, rfl⟩))))
  · refine ⟨fun z => absurd z (by decide), fun _ => ⟨fun z => absurd z (by decide), fun _ => ⟨fun z => absurd z (by decide), fun _ => ⟨fun _ => ?_, fun z => absurd (by decide) z⟩⟩⟩⟩
    ((repeat' first | refine hP _ ?_ | fail); try dsimp only)
    refine ⟨Or.inl rfl, ?_⟩
    ((repeat' first | refine hP _ ?_ | fail); try dsimp only)
    exact h _ (up _ _) (mt_ob1 ka hm hc (Or.inr (Or.inr (Or.inr (Or.inl ⟨rfl, rfl, rfl⟩)))))
  · have e := nx (by decide)
    refine ⟨fun z => absurd z (by decide), fun _ => ⟨fun z => absurd z (by decide), fun _ => ⟨fun z => absurd z (by decide), fun _ => ⟨fun z => absurd z (by decide), fun _ => ?_⟩⟩⟩⟩
    ((repeat' first | refine hP _ ?_ | fail); try dsimp only)
    refine ⟨vp_in_nI (by omega) (by omega), ?_⟩
    ((repeat' first | refine hP _ ?_ | fail); try dsimp only)
    rw [nI_clamp (by omega), e]
    refine m_appease (by decide) ?_
    ((repeat' first | refine hP _ ?_ | fail); try dsimp only)
    exact h _ (up _ _) (mt_ob1 ka hm hc (Or.inr (Or.inr (Or.inr (Or.inr ⟨rfl, rfl, by first | rw [a2] | rw [b2]⟩)))))
set_option maxRecDepth 100000 in
set_option maxHeartbeats 4000000 in
theorem m_obeyLine_1 {i : Nat} (hi : i < 20) {r : Nat → Int32} {o : od_O} (hm : mt v 30 31 32 r) (ho : od_ok o) (h2 : v 20 i = o.2.1) (h3 : (o.2.1 = 104 ∨ o.2.1 = 111) ∨ v 21 i = nI o.2.2) (h : ∀ v' : am_V, (∀ c, c ≠ 31 → c ≠ 32 → v' c = v c) → mt v' 30 31 32 (ob1 1 o.2.1 o.2.2 r) → Q none (am_sh, v', w)) : am_run K I am_m (d + 2) 74 [.ref 18, .int (nI i), .ref (31 + 1)] (am_sh, v, w) 0 0 Q := by
  have hm' := hm
  obtain ⟨⟨a0, b0, a1, b1, a2, b2⟩, -⟩ := hm'
  have up : ∀ (f : Nat) (y : Int32) (c : Nat), c ≠ 31 → c ≠ 32 → am_up v (31 + 1) f y c = v c := fun f y c h1 h2 => by rw [am_up_ne _ _ _ (by omega)]
  have ka : (1 = 0 ∧ 31 + 1 = 31) ∨ (1 = 1 ∧ 31 + 1 = 32) := by decide
  obtain ⟨wh, c, x⟩ := o
  dsimp only at h2 h3 h
  have hc : onl wtL c = true := ho.2.1
  refine en_X6_obeyLine rfl ?_
  intro P hP
  ((repeat' first | refine hP _ ?_ | fail); try dsimp only)
  refine ⟨vp_in_nI (by omega) (by omega), ?_⟩
  ((repeat' first | refine hP _ ?_ | fail); try dsimp only)
  rw [nI_clamp (by omega), h2]
  have nx : ¬ (c = 104 ∨ c = 111) → v 21 i = nI x := fun q => h3.elim (fun z => absurd z q) id
  rcases wt_5 hc with rfl | rfl | rfl | rfl | rfl
  · have e := nx (by decide)
    refine ⟨fun z => absurd z (by decide), fun _ => ⟨fun _ => ?_, fun z => absurd (by decide) z⟩⟩
    ((repeat' first | refine hP _ ?_ | fail); try dsimp only)
    refine ⟨vp_in_nI (by omega) (by omega), ?_⟩
    ((repeat' first | refine hP _ ?_ | fail); try dsimp only)
    rw [nI_clamp (by omega), e]
    refine m_goFwd (by unfold kg4; decide) ?_
    ((repeat' first | refine hP _ ?_ | fail); try dsimp only)
    exact h _ (up _ _) (mt_ob1 ka hm hc (Or.inl ⟨rfl, rfl, by first | rw [a0] | rw [b0]⟩))
  · have e := nx (by decide)
    refine ⟨fun _ => ?_, fun z => absurd (by decide) z⟩
    ((repeat' first | refine hP _ ?_ | fail); try dsimp only)
    refine ⟨vp_in_nI (by omega) (by omega), ?_⟩
    ((repeat' first | refine hP _ ?_ | fail); try dsimp only)
    rw [nI_clamp (by omega), e]
    exact h _ (up _ _) (mt_ob1 ka hm hc (Or.inr (Or.inl ⟨rfl, rfl, rfl⟩)))
  · refine ⟨fun z => absurd z (by decide), fun _ => ⟨fun z => absurd z (by decide), fun _ => ⟨fun _ => ?_, fun z => absurd (by decide) z⟩⟩⟩
    ((repeat' first | refine hP _ ?_ | fail); try dsimp only)
    refine ⟨Or.inr rfl, ?_⟩
    ((repeat' first | refine hP _ ?_ | fail); try dsimp only)
    exact h _ (up _ _) (mt_ob1 ka hm hc (Or.inr (Or.inr (Or.inl ⟨rfl, rfl, rfl⟩))))
  · refine ⟨fun z => absurd z (by decide), fun _ => ⟨fun z => absurd z (by decide), fun _ => ⟨fun z => absurd z (by decide), fun _ => ⟨fun _ => ?_, fun z => absurd (by decide) z⟩⟩⟩⟩
    ((repeat' first | refine hP _ ?_ | fail); try dsimp only)
    refine ⟨Or.inl rfl, ?_⟩
    ((repeat' first | refine hP _ ?_ | fail); try dsimp only)
    exact h _ (up _ _) (mt_ob1 ka hm hc (Or.inr (Or.inr (Or.inr (Or.inl ⟨rfl, rfl, rfl⟩)))))
  · have e := nx (by decide)
    refine ⟨fun z => absurd z (by decide), fun _ => ⟨fun z => absurd z (by decide), fun _ => ⟨fun z => absurd z (by decide), fun _ => ⟨fun z => absurd z (by decide), fun _ => ?_⟩⟩⟩⟩
    ((repeat' first | refine hP _ ?_ | fail); try dsimp only)
    refine ⟨vp_in_nI (by omega) (by omega), ?_⟩
    ((repeat' first | refine hP _ ?_ | fail); try dsimp only)
    rw [nI_clamp (by omega), e]
    refine m_appease (by decide) ?_
    ((repeat' first | refine hP _ ?_ | fail); try dsimp only)
    exact h _ (up _ _) (mt_ob1 ka hm hc (Or.inr (Or.inr (Or.inr (Or.inr ⟨rfl, rfl, by first | rw [a2] | rw [b2]⟩)))))
set_option maxRecDepth 100000 in
set_option maxHeartbeats 4000000 in
theorem m_obey {s : List od_O} (hs : s.length ≤ 20) (hat : od_at v s) {r : Nat → Int32} (hm : mt v 30 31 32 r) (h : ∀ v' : am_V, (∀ c, c ≠ 31 → c ≠ 32 → v' c = v c) → mt v' 30 31 32 (obs s r) → Q none (am_sh, v', w)) : am_run K I am_m (d + 3) 73 [.ref 18, .ref 30, .int (nI s.length)] (am_sh, v, w) 0 0 Q := by
  refine en_X6_obey rfl ?_
  intro P hP
  have key : ∀ (q : List od_O) (i : Nat) (u : am_V) (r : Nat → Int32), s.drop i = q → i ≤ s.length → (∀ c, c ≠ 31 → c ≠ 32 → u c = v c) → mt u 30 31 32 r → (∀ v' : am_V, (∀ c, c ≠ 31 → c ≠ 32 → v' c = v c) → mt v' 30 31 32 (obs q r) → Q none (am_sh, v', w)) → P (cd_X6_obey.drop 2, [some (.ref 18), some (.ref 30), some (.int (nI s.length)), some (.int (nI i))], [], (am_sh, u, w), 0, 0) := by
    intro q
    induction q with
    | nil =>
      intro i u r hd hi hu hm h
      have := drop_nil hd
      ((repeat' first | refine hP _ ?_ | fail); try dsimp only)
      refine ⟨fun _ => ?_, fun c => absurd (nI_le (a := s.length) (b := i) this (by omega)) c⟩
      ((repeat' first | refine hP _ ?_ | fail); try dsimp only)
      exact h u hu hm
    | cons o q ih =>
      intro i u r hd hi hu hm h
      obtain ⟨e1, e2, e3⟩ := drop_at hd
      obtain ⟨ok, x1, x2, x3⟩ := hat i o e1
      -- the other one
      have snd : ∀ (u : am_V) (r1 : Nat → Int32), (∀ c, c ≠ 31 → c ≠ 32 → u c = v c) → mt u 30 31 32 r1 → r1 = obA o r → P (cd_X6_obey.drop 19, [some (.ref 18), some (.ref 30), some (.int (nI s.length)), some (.int (nI i))], [], (am_sh, u, w), 0, 0) := by
        intro u r1 hu hm er
        have nx : ∀ (u : am_V) (r2 : Nat → Int32), (∀ c, c ≠ 31 → c ≠ 32 → u c = v c) → mt u 30 31 32 r2 → r2 = obO o r → P (cd_X6_obey.drop 30, [some (.ref 18), some (.ref 30), some (.int (nI s.length)), some (.int (nI i))], [], (am_sh, u, w), 0, 0) := by
          intro u r2 hu hm er
          ((iterate 2 refine hP _ ?_); try dsimp only)
          rw [nI_1]
          refine ih (i + 1) u r2 e2 (by omega) hu hm (fun v' f m => h v' f ?_)
          rw [er] at m
          exact m
        ((repeat' first | refine hP _ ?_ | fail); try dsimp only)
        refine ⟨vp_in_nI (by omega) (by omega), ?_⟩
        ((repeat' first | refine hP _ ?_ | fail); try dsimp only)
        rw [nI_clamp (by omega), hu 19 (by decide) (by decide), x1]
        refine ⟨fun c => ?_, fun c => ?_⟩
        · exact nx u r1 hu hm (by rw [er]; unfold obO; rw [if_pos c])
        · ((repeat' first | refine hP _ ?_ | fail); try dsimp only)
          refine m_obeyLine_1 (by omega) hm ok (by rw [hu 20 (by decide) (by decide)]; exact x2) (by rw [hu 21 (by decide) (by decide)]; exact x3) (fun v' f m => ?_)
          exact nx v' _ (fun c h1 h2 => by rw [f c h1 h2, hu c h1 h2]) m (by rw [er]; unfold obO; rw [if_neg c])
      ((repeat' first | refine hP _ ?_ | fail); try dsimp only)
      refine ⟨fun c => absurd c (nI_ge (by omega) (by omega)), fun _ => ?_⟩
      ((repeat' first | refine hP _ ?_ | fail); try dsimp only)
      refine ⟨fun c => absurd c (nI_ge (b := 20) (by omega) (by omega)), fun _ => ?_⟩
      ((repeat' first | refine hP _ ?_ | fail); try dsimp only)
      refine ⟨vp_in_nI (by omega) (by omega), ?_⟩
      ((repeat' first | refine hP _ ?_ | fail); try dsimp only)
      rw [nI_clamp (by omega), hu 19 (by decide) (by decide), x1]
      refine ⟨fun c => ?_, fun c => ?_⟩
      · exact snd u r hu hm (by unfold obA; rw [if_pos c])
      · ((repeat' first | refine hP _ ?_ | fail); try dsimp only)
        refine m_obeyLine_0 (by omega) hm ok (by rw [hu 20 (by decide) (by decide)]; exact x2) (by rw [hu 21 (by decide) (by decide)]; exact x3) (fun v' f m => ?_)
        exact snd v' _ (fun c h1 h2 => by rw [f c h1 h2, hu c h1 h2]) m (by unfold obA; rw [if_neg c])
  ((iterate 2 refine hP _ ?_); try dsimp only)
  exact key s 0 v r rfl (by omega) (fun _ _ _ => rfl) hm h
end M76
