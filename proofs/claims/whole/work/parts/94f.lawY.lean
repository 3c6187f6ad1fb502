/-! ===== THE LAW: a rule, read by the class ===== -/
def lwL : List Int32 := [102, 100, 117, 104, 120]
def amL : List Int32 := [102, 100, 117]
def lwN (c : Int32) : Nat := c.toNatClampNeg
theorem lw_m1 : onl lwL (-1) = false := by decide
theorem am_m1 : onl amL (-1) = false := by decide
theorem lw_c {c : Int32} (h : onl lwL c = true) : c = nI (lwN c) ∧ lwN c < 256 ∧ (lc_isA (lwN c) ↔ onl amL c = true) ∧ (onl amL c = true ↔ ¬ c = 104 ∧ ¬ c = 120) := by
  rw [onl_iff] at h
  simp [lwL] at h
  unfold lc_isA
  rcases h with rfl | rfl | rfl | rfl | rfl <;> decide
/-- the amount of a rule; the rule -/
def amF (T : Nat → Int32) (n p : Nat) : lp_R := if onl amL (cc T n p) = true then lpr T n 2000 3 (p + 1) 0 else some (.ok (p + 1, []))
def ruF (T : Nat → Int32) (n p : Nat) : Except (Nat × Nat) (Nat × lc_U) := match amF T n p with
  | none => .error (1, p)
  | some (.error e) => .error e
  | some (.ok (p1, A)) => match tsF T n 2000 p1 with
    | none => .error (1, p)
    | some (.error e) => .error e
    | some (.ok (p2, B)) => .ok (p2, (lwN (cc T n p), A, B))
def lawL (T : Nat → Int32) (n k p : Nat) (s : List lc_U) : Except (Nat × Nat) (Nat × List lc_U) := if onl lwL (cc T n p) = true then (if 16 ≤ k then .error (4, p) else match ruF T n p with
  | .error e => .error e
  | .ok (p2, u) => .ok (p2, s ++ [u])) else .error (1, p)
theorem am_some {T : Nat → Int32} {n p : Nat} (hn : n ≤ 240) (hp : p < n) : ∃ r, amF T n p = some r := by
  unfold amF
  split
  · exact lp_tot 2000 3 (p + 1) 0 (by omega) hp (by show 8 * (n - (p + 1)) + 3 ≤ 2000; omega)
  · exact ⟨_, rfl⟩
theorem ts_some {T : Nat → Int32} {n p : Nat} (hn : n ≤ 240) (hp : p ≤ n) : ∃ r, tsF T n 2000 p = some r := by
  unfold tsF
  split
  · exact lp_tot 2001 5 p 0 (by omega) hp (by show 8 * (n - p) + 4 ≤ 2001; omega)
  · exact ⟨_, rfl⟩
theorem am_ok {T : Nat → Int32} {n p p1 : Nat} {A : List lc_O} (hn : n ≤ 240) (hp : p < n) (h : amF T n p = some (.ok (p1, A))) : p1 ≤ n ∧ p + 1 + A.length ≤ p1 ∧ (onl amL (cc T n p) = true → lc_okA A) := by
  unfold amF at h
  split at h
  · have l := lp_len 2000 3 (p + 1) 0 p1 A hp h
    have := (lp_ev 2000 3 (p + 1) 0 p1 A hp (by omega) h).2.2.2.1 rfl
    exact ⟨l.1, l.2.1, fun _ => okA_of this (by omega) (by omega)⟩
  · rename_i hc
    have e : p + 1 = p1 ∧ [] = A := by simpa using h
    obtain ⟨rfl, rfl⟩ := e
    exact ⟨hp, by simp, fun q => absurd q hc⟩
theorem am_er {T : Nat → Int32} {n p : Nat} {e : Nat × Nat} (hp : p < n) (h : amF T n p = some (.error e)) : 1 ≤ e.1 ∧ e.1 ≤ 6 ∧ e.2 ≤ n := by
  unfold amF at h
  split at h
  · exact lp_er 2000 3 (p + 1) 0 e hp h
  · exact absurd h (by simp)
theorem ts_ok {T : Nat → Int32} {n p p1 : Nat} {B : List lc_O} (hn : n ≤ 240) (hp : p ≤ n) (h : tsF T n 2000 p = some (.ok (p1, B))) : cc T n p = 40 ∧ p1 ≤ n ∧ p + B.length + 2 ≤ p1 ∧ lc_okT B := by
  unfold tsF at h
  split at h
  · rename_i hc
    have ev := (lp_ev 2001 5 p 0 p1 B hp (by omega) h).2.2.2.2.2.1 rfl
    rw [lpr_5, if_pos hc, if_neg (by omega)] at h
    obtain ⟨q1, c1, h1, h⟩ := lpb_ok h
    have hpl := cc_p hc (by decide)
    have l1 := lp_len 2000 8 (p + 1) 1 q1 c1 hpl h1
    split at h
    · rename_i hc2
      have := cc_p hc2 (by decide)
      have e : q1 + 1 = p1 ∧ c1 = B := by simpa using h
      obtain ⟨rfl, rfl⟩ := e
      exact ⟨hc, by omega, by omega, okT_of ev (by omega) (by omega)⟩
    · exact absurd h (by simp)
  · exact absurd h (by simp)
theorem ts_er {T : Nat → Int32} {n p : Nat} {e : Nat × Nat} (hp : p ≤ n) (h : tsF T n 2000 p = some (.error e)) : 1 ≤ e.1 ∧ e.1 ≤ 6 ∧ e.2 ≤ n := by
  unfold tsF at h
  split at h
  · exact lp_er 2001 5 p 0 e hp h
  · have : (1, p) = e := by simpa using h
    rw [← this]
    exact ⟨by show 1 ≤ 1; omega, by show 1 ≤ 6; omega, hp⟩
theorem ru_ok {T : Nat → Int32} {n p p2 : Nat} {u : lc_U} (hn : n ≤ 240) (hp : p < n) (h : ruF T n p = .ok (p2, u)) : ∃ p1 A B, amF T n p = some (.ok (p1, A)) ∧ tsF T n 2000 p1 = some (.ok (p2, B)) ∧ u = (lwN (cc T n p), A, B) ∧ p2 ≤ n := by
  unfold ruF at h
  split at h
  · exact absurd h (by simp)
  · exact absurd h (by simp)
  · rename_i p1 A ha
    split at h
    · exact absurd h (by simp)
    · exact absurd h (by simp)
    · rename_i q2 B ht
      have e : q2 = p2 ∧ (lwN (cc T n p), A, B) = u := by simpa using h
      obtain ⟨rfl, rfl⟩ := e
      exact ⟨p1, A, B, ha, ht, rfl, (ts_ok hn (am_ok hn hp ha).1 ht).2.1⟩
theorem ru_er {T : Nat → Int32} {n p : Nat} {e : Nat × Nat} (hn : n ≤ 240) (hp : p < n) (h : ruF T n p = .error e) : 1 ≤ e.1 ∧ e.1 ≤ 6 ∧ e.2 ≤ n := by
  obtain ⟨r, hr⟩ := am_some (T := T) hn hp
  unfold ruF at h
  split at h
  · rename_i hx
    rw [hr] at hx
    exact absurd hx (by simp)
  · rename_i e' hx
    have : e' = e := by simpa using h
    subst this
    exact am_er hp hx
  · rename_i p1 A hx
    have l1 := am_ok hn hp hx
    obtain ⟨r2, hr2⟩ := ts_some (T := T) hn l1.1
    split at h
    · rename_i hy
      rw [hr2] at hy
      exact absurd hy (by simp)
    · rename_i e' hy
      have : e' = e := by simpa using h
      subst this
      exact ts_er l1.1 hy
    · exact absurd h (by simp)
theorem law_er {T : Nat → Int32} {n k p : Nat} {s : List lc_U} {e : Nat × Nat} (hn : n ≤ 240) (hp : p ≤ n) (h : lawL T n k p s = .error e) : 1 ≤ e.1 ∧ e.1 ≤ 6 ∧ e.2 ≤ n + 2 := by
  have one : ∀ a : Nat, 1 ≤ a → a ≤ 6 → (Except.error (a, p) : Except (Nat × Nat) (Nat × List lc_U)) = .error e → 1 ≤ e.1 ∧ e.1 ≤ 6 ∧ e.2 ≤ n + 2 := fun a h1 h2 h => by
    have : (a, p) = e := by simpa using h
    rw [← this]
    exact ⟨h1, h2, by show p ≤ n + 2; omega⟩
  unfold lawL at h
  split at h
  · rename_i hc
    have hpl := onl_lt lw_m1 hc
    split at h
    · exact one 4 (by omega) (by omega) h
    · split at h
      · rename_i e' hr
        have : e' = e := by simpa using h
        subst this
        have := ru_er hn hpl hr
        omega
      · exact absurd h (by simp)
  · exact one 1 (by omega) (by omega) h
theorem law_ok {T : Nat → Int32} {n k p p1 : Nat} {s s1 : List lc_U} (hn : n ≤ 240) (h : lawL T n k p s = .ok (p1, s1)) : onl lwL (cc T n p) = true ∧ k < 16 ∧ p1 ≤ n ∧ ∃ u, ruF T n p = .ok (p1, u) ∧ s1 = s ++ [u] := by
  unfold lawL at h
  split at h
  · rename_i hc
    have hpl := onl_lt lw_m1 hc
    split at h
    · exact absurd h (by simp)
    · split at h
      · exact absurd h (by simp)
      · rename_i p2 u hr
        have e : p2 = p1 ∧ s ++ [u] = s1 := by simpa using h
        obtain ⟨rfl, rfl⟩ := e
        exact ⟨hc, by omega, (ru_ok hn hpl hr).choose_spec.choose_spec.choose_spec.2.2.2, u, hr, rfl⟩
  · exact absurd h (by simp)
/-- the class's side -/
def lawC (s : List lc_U) (z : Nat) (code letters amountAt testAt : Nat → Int32) : Prop := ∀ q l A B, s[q]? = some (l, A, B) → letters q = nI l ∧ ∃ ca ct : Nat, amountAt q = nI ca ∧ testAt q = nI ct ∧ lc_sC code z ct B ∧ (lc_isA l → lc_sC code z ca A)
def lw_fr (v v' : am_V) : Prop := ∀ c, c ≠ 10 → c ≠ 11 → c ≠ 12 → c ≠ 13 → c ≠ 14 → c ≠ 15 → v' c = v c
def lw_S (v0 : am_V) (T : Nat → Int32) (n k p : Nat) (s : List lc_U) (u : am_V) : Prop := rd u 10 T n p ∧ lw_fr v0 u ∧ (s.length = k ∧ k ≤ 16) ∧ (k = 0 ∨ (u 11 7 = nI k ∧ ∃ z, z ≤ p ∧ u 11 6 = nI z ∧ lawC s z (u 12) (u 13) (u 14) (u 15)))
theorem sC_mono {code code' : Nat → Int32} {z z' b : Nat} {c : List lc_O} (h : lc_sC code z b c) (hz : z ≤ z') (he : ∀ i, i < z → code' i = code i) : lc_sC code' z' b c := by
  obtain ⟨h1, h2, h3⟩ := h
  refine ⟨by omega, fun i o hi => ?_, ?_⟩
  · have := lt_of_get hi
    rw [he _ (by omega)]
    exact h2 i o hi
  · rw [he _ h1]
    exact h3
theorem lawC_app {s : List lc_U} {z z' k : Nat} {code code' lt lt' am am' te te' : Nat → Int32} {l : Nat} {A B : List lc_O} (h : lawC s z code lt am te) (hk : s.length = k) (hz : z ≤ z') (he : ∀ i, i < z → code' i = code i) (h1 : ∀ q, q < k → lt' q = lt q ∧ am' q = am q ∧ te' q = te q) (hl : lt' k = nI l) (hn : ∃ ca ct : Nat, am' k = nI ca ∧ te' k = nI ct ∧ lc_sC code' z' ct B ∧ (lc_isA l → lc_sC code' z' ca A)) : lawC (s ++ [(l, A, B)]) z' code' lt' am' te' := by
  intro q l2 A2 B2 hq
  rcases Nat.lt_or_ge q s.length with g | g
  · rw [List.getElem?_append_left g] at hq
    obtain ⟨a1, ca, ct, a2, a3, a4, a5⟩ := h q l2 A2 B2 hq
    obtain ⟨b1, b2, b3⟩ := h1 q (by omega)
    exact ⟨by rw [b1, a1], ca, ct, by rw [b2, a2], by rw [b3, a3], sC_mono a4 hz he, fun t => sC_mono (a5 t) hz he⟩
  · rw [List.getElem?_append_right g] at hq
    have := lt_of_get hq
    have hq0 : q = k := by
      simp at this
      omega
    subst hq0
    rw [show q - s.length = 0 by omega] at hq
    have e : (l, A, B) = (l2, A2, B2) := by simpa using hq
    have e1 : l = l2 := congrArg Prod.fst e
    have e2 : A = A2 := congrArg (fun x => x.2.1) e
    have e3 : B = B2 := congrArg (fun x => x.2.2) e
    subst e1 e2 e3
    exact ⟨hl, hn⟩
section M94y
variable {K : am_K} {d : Nat} {v : am_V} {w : am_X} {Q : Option Value → am_H → Prop} {T : Nat → Int32} {n p oo z : Nat}
set_option maxRecDepth 100000 in
set_option maxHeartbeats 4000000 in
theorem m_clear11 {I : am_I} (h : Q none (am_sh, am_up (am_up v 11 6 0) 11 7 0, w)) : am_run K I am_m (d + 1) 35 [.ref 11] (am_sh, v, w) 0 0 Q := by
  refine en_X3_clear rfl ?_
  intro P hP
  ((repeat' first | refine hP _ ?_ | fail); try dsimp only)
  exact h
set_option maxRecDepth 100000 in
set_option maxHeartbeats 4000000 in
theorem m_beginRule {I : am_I} {k : Nat} {c : Int32} (hk : k < 16) (h7 : v 11 7 = nI k) (h6 : v 11 6 = nI z) (h : Q none (am_sh, am_up (am_up (am_up (am_up v 13 k c) 14 k (nI z)) 15 k (nI z)) 11 7 (nI (k + 1)), w)) : am_run K I am_m (d + 1) 37 [.ref 11, .int c] (am_sh, v, w) 0 0 Q := by
  refine en_X3_beginRule rfl ?_
  intro P hP
  ((repeat' first | refine hP _ ?_ | fail); try dsimp only)
  rw [h7]
  refine ⟨fun q => absurd q (nI_ge (b := 16) hk (by omega)), fun _ => ?_⟩
  ((repeat' first | refine hP _ ?_ | fail); try dsimp only)
  rw [h7]
  refine ⟨vp_in_nI (by omega) (by omega), ?_⟩
  dsimp only
  rw [nI_clamp (by omega)]
  ((repeat' first | refine hP _ ?_ | fail); try dsimp only)
  rw [am_up_ne _ _ _ (show (11 : Nat) ≠ 13 by decide), h7, h6]
  refine ⟨vp_in_nI (by omega) (by omega), ?_⟩
  dsimp only
  rw [nI_clamp (by omega)]
  ((repeat' first | refine hP _ ?_ | fail); try dsimp only)
  rw [am_up_ne _ _ _ (show (11 : Nat) ≠ 14 by decide), am_up_ne _ _ _ (show (11 : Nat) ≠ 13 by decide), h7, h6]
  refine ⟨vp_in_nI (by omega) (by omega), ?_⟩
  dsimp only
  rw [nI_clamp (by omega)]
  ((repeat' first | refine hP _ ?_ | fail); try dsimp only)
  rw [am_up_ne _ _ _ (show (11 : Nat) ≠ 15 by decide), am_up_ne _ _ _ (show (11 : Nat) ≠ 14 by decide), am_up_ne _ _ _ (show (11 : Nat) ≠ 13 by decide), h7, nI_1]
  exact h
set_option maxRecDepth 100000 in
set_option maxHeartbeats 4000000 in
theorem m_beginTest {I : am_I} {k : Nat} (hk : k < 16) (h7 : v 11 7 = nI (k + 1)) (h6 : v 11 6 = nI z) (h : Q none (am_sh, am_up v 15 k (nI z), w)) : am_run K I am_m (d + 1) 38 [.ref 11] (am_sh, v, w) 0 0 Q := by
  refine en_X3_beginTest rfl ?_
  intro P hP
  ((repeat' first | refine hP _ ?_ | fail); try dsimp only)
  rw [h7]
  refine ⟨fun q => absurd q (nI_nle (by omega) (by omega)), fun _ => ?_⟩
  ((repeat' first | refine hP _ ?_ | fail); try dsimp only)
  rw [h7, nI_pred, h6]
  refine ⟨vp_in_nI (by omega) (by omega), ?_⟩
  dsimp only
  rw [nI_clamp (by omega)]
  ((repeat' first | refine hP _ ?_ | fail); try dsimp only)
  exact h
set_option maxRecDepth 100000 in
set_option maxHeartbeats 4000000 in
theorem m_become {I : am_I} (h : ∀ v', (∀ c, c ≠ 3 → c ≠ 4 → c ≠ 5 → c ≠ 6 → c ≠ 7 → v' c = v c) → v' 3 6 = v 11 6 → v' 3 7 = v 11 7 → (∀ i, i < 240 → v' 4 i = v 12 i) → (∀ i, i < 16 → v' 5 i = v 13 i ∧ v' 6 i = v 14 i ∧ v' 7 i = v 15 i) → Q none (am_sh, v', w)) : am_run K I am_m (d + 1) 36 [.ref 3, .ref 11] (am_sh, v, w) 0 0 Q := by
  refine en_X3_become rfl ?_
  intro P hP
  ((repeat' first | refine hP _ ?_ | fail); try dsimp only)
  refine ⟨by decide, ?_⟩
  ((repeat' first | refine hP _ ?_ | fail); try dsimp only)
  refine ⟨by decide, ?_⟩
  ((repeat' first | refine hP _ ?_ | fail); try dsimp only)
  refine ⟨by decide, ?_⟩
  ((repeat' first | refine hP _ ?_ | fail); try dsimp only)
  refine ⟨by decide, ?_⟩
  ((repeat' first | refine hP _ ?_ | fail); try dsimp only)
  show Q none (am_sh, am_cpy (am_cpy (am_cpy (am_cpy (am_up (am_up v 3 6 (v 11 6)) 3 7 (am_up v 3 6 (v 11 6) 11 7)) 12 4 0 0 240) 13 5 0 0 16) 14 6 0 0 16) 15 7 0 0 16, w)
  refine h _ (fun c h3 h4 h5 h6 h7 => ?_) ?_ ?_ (fun i hi => ?_) (fun i hi => ⟨?_, ?_, ?_⟩)
  · funext y
    rw [am_cpy_eq, if_neg (fun q => h7 q.1), am_cpy_eq, if_neg (fun q => h6 q.1), am_cpy_eq, if_neg (fun q => h5 q.1), am_cpy_eq, if_neg (fun q => h4 q.1), am_up_ne _ _ _ h3, am_up_ne _ _ _ h3]
  · rw [am_cpy_eq, if_neg (by omega), am_cpy_eq, if_neg (by omega), am_cpy_eq, if_neg (by omega), am_cpy_eq, if_neg (by omega), am_up_eq, if_neg (by decide), am_up_eq, if_pos ⟨rfl, rfl⟩]
  · rw [am_cpy_eq, if_neg (by omega), am_cpy_eq, if_neg (by omega), am_cpy_eq, if_neg (by omega), am_cpy_eq, if_neg (by omega), am_up_eq, if_pos ⟨rfl, rfl⟩, am_up_ne _ _ _ (by decide)]
  · rw [am_cpy_eq, if_neg (by omega), am_cpy_eq, if_neg (by omega), am_cpy_eq, if_neg (by omega), am_cpy_eq, if_pos ⟨rfl, hi⟩, am_up_ne _ _ _ (by decide), am_up_ne _ _ _ (by decide)]
  · rw [am_cpy_eq, if_neg (by omega), am_cpy_eq, if_neg (by omega), am_cpy_eq, if_pos ⟨rfl, hi⟩, am_cpy_eq, if_neg (by omega), am_up_ne _ _ _ (by decide), am_up_ne _ _ _ (by decide)]
  · rw [am_cpy_eq, if_neg (by omega), am_cpy_eq, if_pos ⟨rfl, hi⟩, am_cpy_eq, if_neg (by omega), am_cpy_eq, if_neg (by omega), am_up_ne _ _ _ (by decide), am_up_ne _ _ _ (by decide)]
  · rw [am_cpy_eq, if_pos ⟨rfl, hi⟩, am_cpy_eq, if_neg (by omega), am_cpy_eq, if_neg (by omega), am_cpy_eq, if_neg (by omega), am_up_ne _ _ _ (by decide), am_up_ne _ _ _ (by decide)]
end M94y
