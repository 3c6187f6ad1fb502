/-! ===== treaties: read; the pair ===== -/
def acL : List Int32 := [97, 98, 99, 100, 101, 102, 103, 104, 105, 106, 107, 108, 109, 110, 111, 112]
def sgL2 : List Int32 := [60, 61]
def ac (c : Int32) : Nat := c.toNatClampNeg - 97
def trL (T : Nat → Int32) (n k p : Nat) : Except (Nat × Nat) (Nat × tr_L) := if onl acL (cc T n p) = false then .error (1, p) else if 24 ≤ k then .error (4, p) else if onl sgL2 (cc T n (p + 1)) = false then .error (1, p + 1) else if onl acL (cc T n (p + 2)) = false then .error (1, p + 2) else if cc T n p = cc T n (p + 2) then .error (6, p + 2) else .ok (p + 3, (ac (cc T n p), ac (cc T n (p + 2)), decide (cc T n (p + 1) = 61)))
def trS (T : Nat → Int32) (n k p : Nat) (s : List tr_L) : Except (Nat × Nat) (Nat × List tr_L) := match trL T n k p with
  | .error e => .error e
  | .ok (p1, o) => .ok (p1, s ++ [o])
theorem ac_m1 : onl acL (-1) = false := by decide
theorem sg_m1 : onl sgL2 (-1) = false := by decide
theorem ac_nat {c : Int32} (h : onl acL c = true) : ∃ j : Nat, j < 16 ∧ c = nI (97 + j) ∧ ac c = j := by
  rw [onl_iff] at h
  simp [acL] at h
  rcases h with rfl | rfl | rfl | rfl | rfl | rfl | rfl | rfl | rfl | rfl | rfl | rfl | rfl | rfl | rfl | rfl
  · exact ⟨0, by decide⟩
  · exact ⟨1, by decide⟩
  · exact ⟨2, by decide⟩
  · exact ⟨3, by decide⟩
  · exact ⟨4, by decide⟩
  · exact ⟨5, by decide⟩
  · exact ⟨6, by decide⟩
  · exact ⟨7, by decide⟩
  · exact ⟨8, by decide⟩
  · exact ⟨9, by decide⟩
  · exact ⟨10, by decide⟩
  · exact ⟨11, by decide⟩
  · exact ⟨12, by decide⟩
  · exact ⟨13, by decide⟩
  · exact ⟨14, by decide⟩
  · exact ⟨15, by decide⟩
theorem ac_97 : ∀ j, j < 16 → onl acL (nI (97 + j)) = true := by decide
theorem ac_sub {c : Int32} (h : onl acL c = true) : c - 97 = nI (ac c) := by
  obtain ⟨j, hj, e, e2⟩ := ac_nat h
  rw [e2, e, show (97 : Int32) = nI 97 from rfl, pk_sub (by omega)]
  congr 1
  omega
theorem ac_iff {c : Int32} : onl acL c = true ↔ (0 ≤ c - 97 ∧ c - 97 ≤ 15) := by
  constructor
  · intro h
    obtain ⟨j, hj, e, e2⟩ := ac_nat h
    rw [ac_sub h, e2]
    exact ⟨nI_pos' (by omega), nI_le (b := 15) (by omega) (by omega)⟩
  · rintro ⟨h1, h2⟩
    obtain ⟨j, hj, e⟩ := am_nat h1 h2 (n := 15) rfl
    have e2 : c = nI (97 + j) := by
      have := congrArg (· + 97) e
      simp only [Int32.sub_add_cancel] at this
      rw [this, show (97 : Int32) = nI 97 from rfl, nI_add, Nat.add_comm]
    rw [e2]
    exact ac_97 j (by omega)
theorem sg_2 {c : Int32} : onl sgL2 c = true ↔ (c = 60 ∨ c = 61) := by
  rw [onl_iff]
  simp [sgL2]
theorem ac_lt {c : Int32} (h : onl acL c = true) : ac c < 16 := by
  obtain ⟨j, hj, e, e2⟩ := ac_nat h
  omega
theorem ac_eq {c c' : Int32} (h : onl acL c = true) (h' : onl acL c' = true) : nI (ac c) = nI (ac c') ↔ c = c' := by
  rw [← ac_sub h, ← ac_sub h']
  constructor
  · intro q
    have := congrArg (· + 97) q
    simpa only [Int32.sub_add_cancel] using this
  · intro q
    rw [q]
theorem trL_ok {T : Nat → Int32} {n k p p1 : Nat} {o : tr_L} (h : trL T n k p = .ok (p1, o)) : p1 = p + 3 ∧ p1 ≤ n ∧ k < 24 ∧ o.1 < 16 ∧ o.2.1 < 16 := by
  unfold trL at h
  cases h1 : onl acL (cc T n p) with
  | false =>
    rw [h1, if_pos rfl] at h
    exact absurd h (by simp)
  | true =>
  rw [h1, if_neg (by decide)] at h
  by_cases hk : 24 ≤ k
  · rw [if_pos hk] at h
    exact absurd h (by simp)
  rw [if_neg hk] at h
  cases h2 : onl sgL2 (cc T n (p + 1)) with
  | false =>
    rw [h2, if_pos rfl] at h
    exact absurd h (by simp)
  | true =>
  rw [h2, if_neg (by decide)] at h
  cases h3 : onl acL (cc T n (p + 2)) with
  | false =>
    rw [h3, if_pos rfl] at h
    exact absurd h (by simp)
  | true =>
  have hp := onl_lt ac_m1 h3
  rw [h3, if_neg (by decide)] at h
  by_cases q : cc T n p = cc T n (p + 2)
  · rw [if_pos q] at h
    exact absurd h (by simp)
  rw [if_neg q] at h
  have e : p + 3 = p1 ∧ (ac (cc T n p), ac (cc T n (p + 2)), decide (cc T n (p + 1) = 61)) = o := by simpa using h
  rw [← e.2]
  exact ⟨e.1.symm, by omega, by omega, ac_lt h1, ac_lt h3⟩
theorem trL_er {T : Nat → Int32} {n k p : Nat} {e : Nat × Nat} (hp : p ≤ n) (h : trL T n k p = .error e) : 1 ≤ e.1 ∧ e.1 ≤ 6 ∧ e.2 ≤ n + 2 := by
  unfold trL at h
  cases h1 : onl acL (cc T n p) with
  | false =>
    rw [h1, if_pos rfl] at h
    have e : (1, p) = e := by simpa using h
    subst e
    exact ⟨by show 1 ≤ 1; decide, by show 1 ≤ 6; decide, by show p ≤ n + 2; omega⟩
  | true =>
  have hp1 := onl_lt ac_m1 h1
  rw [h1, if_neg (by decide)] at h
  by_cases hk : 24 ≤ k
  · rw [if_pos hk] at h
    have e : (4, p) = e := by simpa using h
    subst e
    exact ⟨by show 1 ≤ 4; decide, by show 4 ≤ 6; decide, by show p ≤ n + 2; omega⟩
  rw [if_neg hk] at h
  cases h2 : onl sgL2 (cc T n (p + 1)) with
  | false =>
    rw [h2, if_pos rfl] at h
    have e : (1, p + 1) = e := by simpa using h
    subst e
    exact ⟨by show 1 ≤ 1; decide, by show 1 ≤ 6; decide, by show p + 1 ≤ n + 2; omega⟩
  | true =>
  have hp2 := onl_lt sg_m1 h2
  rw [h2, if_neg (by decide)] at h
  cases h3 : onl acL (cc T n (p + 2)) with
  | false =>
    rw [h3, if_pos rfl] at h
    have e : (1, p + 2) = e := by simpa using h
    subst e
    exact ⟨by show 1 ≤ 1; decide, by show 1 ≤ 6; decide, by show p + 2 ≤ n + 2; omega⟩
  | true =>
  rw [h3, if_neg (by decide)] at h
  by_cases q : cc T n p = cc T n (p + 2)
  · rw [if_pos q] at h
    have e : (6, p + 2) = e := by simpa using h
    subst e
    exact ⟨by show 1 ≤ 6; decide, by show 6 ≤ 6; decide, by show p + 2 ≤ n + 2; omega⟩
  · rw [if_neg q] at h
    exact absurd h (by simp)
def td_fr (v0 v : am_V) : Prop := ∀ c, c ≠ 26 → c ≠ 27 → c ≠ 28 → c ≠ 29 → v c = v0 c
def td_S (v0 : am_V) (T : Nat → Int32) (n k p : Nat) (s : List tr_L) (v : am_V) : Prop := rd v 26 T n p ∧ td_fr v0 v ∧ (s.length = k ∧ k ≤ 24) ∧ tr_rd v s
theorem tr_push {v v' : am_V} {s : List tr_L} {x y : Nat} {e : Bool} {k : Nat} (h : tr_rd v s) (hk : s.length = k) (hx : x < 16) (hy : y < 16) (hs : ∀ i, i < k → v' 27 i = v 27 i ∧ v' 28 i = v 28 i ∧ v' 29 i = v 29 i) (h1 : v' 27 k = nI x) (h2 : v' 29 k = nI y) (h3 : v' 28 k = 61 ↔ e = true) : tr_rd v' (s ++ [(x, y, e)]) := by
  intro i x' y' e' he
  rcases Nat.lt_or_ge i k with q | q
  · rw [List.getElem?_append_left (by omega)] at he
    have := h i x' y' e' he
    rw [(hs i q).1, (hs i q).2.1, (hs i q).2.2]
    exact this
  · rw [List.getElem?_append_right (by omega)] at he
    have hi : i - s.length = 0 := by
      rcases Nat.eq_zero_or_pos (i - s.length) with z | z
      · exact z
      · rw [List.getElem?_eq_none (by simp; omega)] at he
        exact absurd he (by simp)
    rw [hi] at he
    have e : x = x' ∧ y = y' ∧ e = e' := by simpa using he
    obtain ⟨rfl, rfl, rfl⟩ := e
    have : i = k := by omega
    subst this
    exact ⟨hx, hy, h1, h2, h3⟩
section M82
variable {K : am_K} {I : am_I} {d : Nat} {v v0 : am_V} {w : am_X} {Q : Option Value → am_H → Prop} {T : Nat → Int32} {n k p : Nat} {s : List tr_L}
set_option maxRecDepth 100000 in
set_option maxHeartbeats 4000000 in
theorem m_trLine (hk1 : I 2760 = some (fun c => am_sfind c 0 acL)) (hk2 : I 2773 = some (fun c => am_sfind c 0 sgL2)) (hS : td_S v0 T n k p s v) (hE : ∀ e u', trS T n k p s = .error e → td_fr v0 u' → u' 26 2 = flt e → Q (some (.int 0)) (am_sh, u', w)) (hO : ∀ p1 s1 u', trS T n k p s = .ok (p1, s1) → td_S v0 T n (k + 1) p1 s1 u' → Q (some (.int 1)) (am_sh, u', w)) : am_run K I am_m (d + 3) 101 [.ref 26, .int (nI k)] (am_sh, v, w) 0 0 Q := by
  obtain ⟨hr, hf, ⟨hsk, hk24⟩, hat⟩ := hS
  have hR : rdr 26 := by unfold rdr; decide
  have hn := hr.2.2.1.1
  have fe : ∀ {u : am_V} (x : Int32), td_fr v0 u → td_fr v0 (am_up u 26 2 x) := fun x hu c h1 h2 h3 h4 => by rw [am_up_ne _ _ _ h1]; exact hu c h1 h2 h3 h4
  unfold trS trL at hE hO
  refine en_X10_readLine rfl ?_
  intro P hP
  ((repeat' first | refine hP _ ?_ | fail); try dsimp only)
  refine m_isOn hR hr hk1 (by decide) ac_m1 ?_
  ((repeat' first | refine hP _ ?_ | fail); try dsimp only)
  cases ho : onl acL (cc T n p) with
  | false =>
    rw [ho, if_pos rfl] at hE
    refine ⟨fun c => absurd rfl c, fun _ => ?_⟩
    ((repeat' first | refine hP _ ?_ | fail); try dsimp only)
    refine m_cannot hR hr.1.2 ?_
    ((repeat' first | refine hP _ ?_ | fail); try dsimp only)
    exact ⟨Or.inl rfl, hE (1, p) _ rfl (fe _ hf) (by rw [am_up_eq, if_pos ⟨rfl, rfl⟩])⟩
  | true =>
  rw [ho, if_neg (by decide)] at hE hO
  have hpl := onl_lt ac_m1 ho
  refine ⟨fun _ => ?_, fun c => absurd c (by decide)⟩
  ((repeat' first | refine hP _ ?_ | fail); try dsimp only)
  by_cases hk : 24 ≤ k
  · rw [if_pos hk] at hE
    refine ⟨fun c => absurd c (nI_nlt (a := k) (b := 24) hk (by omega)), fun _ => ?_⟩
    ((repeat' first | refine hP _ ?_ | fail); try dsimp only)
    rw [hr.1.2]
    refine m_fails hR ?_
    ((repeat' first | refine hP _ ?_ | fail); try dsimp only)
    exact ⟨Or.inl rfl, hE (4, p) _ rfl (fe _ hf) (by rw [am_up_eq, if_pos ⟨rfl, rfl⟩]; rfl)⟩
  rw [if_neg hk] at hE hO
  refine ⟨fun _ => ?_, fun c => absurd (nI_lt (a := k) (b := 24) (by omega) (by omega)) c⟩
  ((repeat' first | refine hP _ ?_ | fail); try dsimp only)
  refine m_takesC hR hr hk1 (by decide) ac_m1 (fun q => absurd (ho.symm.trans q) (by decide)) (fun _ _ => ?_)
  ((repeat' first | refine hP _ ?_ | fail); try dsimp only)
  rw [take_4, ac_sub ho]
  refine ⟨vp_in_nI (by omega) (by omega), ?_⟩
  dsimp only
  rw [nI_clamp (by omega)]
  have r1 := take_rd hR hr (cc T n p) hpl
  generalize hu1 : am_up (am_up v 26 4 (cc T n p)) 26 3 (nI (p + 1)) = u1 at r1 ⊢
  have f1 : ∀ c, c ≠ 26 → u1 c = v c := fun c hc => by rw [← hu1]; exact (take_fr 26 v _ _).1 c hc
  generalize hu2 : am_up u1 27 k (nI (ac (cc T n p))) = u2
  have f2 : ∀ c, c ≠ 27 → u2 c = u1 c := fun c hc => by rw [← hu2, am_up_ne _ _ _ hc]
  have g2 : ∀ i, i ≠ k → u2 27 i = v 27 i := fun i hi => by rw [← hu2, am_up_eq, if_neg (fun q => hi q.2), f1 27 (by decide)]
  have c2 : u2 27 k = nI (ac (cc T n p)) := by rw [← hu2, am_up_eq, if_pos ⟨rfl, rfl⟩]
  have r2 : rd u2 26 T n (p + 1) := r1.o (f2 26 (by decide)) (f2 1 (by decide)) (f2 2 (by decide))
  have fr2 : td_fr v0 u2 := fun c h1 h2 h3 h4 => by rw [f2 c h2, f1 c h1, hf c h1 h2 h3 h4]
  ((repeat' first | refine hP _ ?_ | fail); try dsimp only)
  refine m_takesC hR r2 hk2 (by decide) sg_m1 (fun q => ?_) (fun ho2 hpl2 => ?_)
  · rw [q, if_pos rfl] at hE
    ((repeat' first | refine hP _ ?_ | fail); try dsimp only)
    refine ⟨fun c => absurd rfl c, fun _ => ?_⟩
    ((repeat' first | refine hP _ ?_ | fail); try dsimp only)
    refine m_cannot hR r2.1.2 ?_
    ((repeat' first | refine hP _ ?_ | fail); try dsimp only)
    exact ⟨Or.inl rfl, hE (1, p + 1) _ rfl (fe _ fr2) (by rw [am_up_eq, if_pos ⟨rfl, rfl⟩])⟩
  rw [ho2, if_neg (by decide)] at hE hO
  ((repeat' first | refine hP _ ?_ | fail); try dsimp only)
  refine ⟨fun _ => ?_, fun c => absurd c (by decide)⟩
  ((repeat' first | refine hP _ ?_ | fail); try dsimp only)
  rw [take_4]
  refine ⟨vp_in_nI (by omega) (by omega), ?_⟩
  dsimp only
  rw [nI_clamp (by omega)]
  have r3 := take_rd hR r2 (cc T n (p + 1)) hpl2
  generalize hu3 : am_up (am_up u2 26 4 (cc T n (p + 1))) 26 3 (nI (p + 1 + 1)) = u3 at r3 ⊢
  have f3 : ∀ c, c ≠ 26 → u3 c = u2 c := fun c hc => by rw [← hu3]; exact (take_fr 26 u2 _ _).1 c hc
  generalize hu4 : am_up u3 28 k (cc T n (p + 1)) = u4
  have f4 : ∀ c, c ≠ 28 → u4 c = u3 c := fun c hc => by rw [← hu4, am_up_ne _ _ _ hc]
  have g4 : ∀ i, i ≠ k → u4 28 i = v 28 i := fun i hi => by rw [← hu4, am_up_eq, if_neg (fun q => hi q.2), f3 28 (by decide), f2 28 (by decide), f1 28 (by decide)]
  have c4 : u4 28 k = cc T n (p + 1) := by rw [← hu4, am_up_eq, if_pos ⟨rfl, rfl⟩]
  have r4 : rd u4 26 T n (p + 2) := r3.o (f4 26 (by decide)) (f4 1 (by decide)) (f4 2 (by decide))
  have w4 : u4 27 = u2 27 := by rw [f4 27 (by decide), f3 27 (by decide)]
  have x4 : u4 29 = v 29 := by rw [f4 29 (by decide), f3 29 (by decide), f2 29 (by decide), f1 29 (by decide)]
  have fr4 : td_fr v0 u4 := fun c h1 h2 h3 h4 => by rw [f4 c h3, f3 c h1, fr2 c h1 h2 h3 h4]
  ((repeat' first | refine hP _ ?_ | fail); try dsimp only)
  refine m_takesC hR r4 hk1 (by decide) ac_m1 (fun q => ?_) (fun ho3 hpl3 => ?_)
  · rw [q, if_pos rfl] at hE
    ((repeat' first | refine hP _ ?_ | fail); try dsimp only)
    refine ⟨fun c => absurd rfl c, fun _ => ?_⟩
    ((repeat' first | refine hP _ ?_ | fail); try dsimp only)
    refine m_cannot hR r4.1.2 ?_
    ((repeat' first | refine hP _ ?_ | fail); try dsimp only)
    exact ⟨Or.inl rfl, hE (1, p + 2) _ rfl (fe _ fr4) (by rw [am_up_eq, if_pos ⟨rfl, rfl⟩])⟩
  rw [ho3, if_neg (by decide)] at hE hO
  ((repeat' first | refine hP _ ?_ | fail); try dsimp only)
  refine ⟨fun _ => ?_, fun c => absurd c (by decide)⟩
  ((repeat' first | refine hP _ ?_ | fail); try dsimp only)
  rw [take_4, ac_sub ho3]
  refine ⟨vp_in_nI (by omega) (by omega), ?_⟩
  dsimp only
  rw [nI_clamp (by omega)]
  have r5 := take_rd hR r4 (cc T n (p + 2)) hpl3
  generalize hu5 : am_up (am_up u4 26 4 (cc T n (p + 2))) 26 3 (nI (p + 2 + 1)) = u5 at r5 ⊢
  have f5 : ∀ c, c ≠ 26 → u5 c = u4 c := fun c hc => by rw [← hu5]; exact (take_fr 26 u4 _ _).1 c hc
  generalize hu6 : am_up u5 29 k (nI (ac (cc T n (p + 2)))) = u6
  have f6 : ∀ c, c ≠ 29 → u6 c = u5 c := fun c hc => by rw [← hu6, am_up_ne _ _ _ hc]
  have g6 : ∀ i, i ≠ k → u6 29 i = v 29 i := fun i hi => by rw [← hu6, am_up_eq, if_neg (fun q => hi q.2), f5 29 (by decide), x4]
  have c6 : u6 29 k = nI (ac (cc T n (p + 2))) := by rw [← hu6, am_up_eq, if_pos ⟨rfl, rfl⟩]
  have r6 : rd u6 26 T n (p + 3) := r5.o (f6 26 (by decide)) (f6 1 (by decide)) (f6 2 (by decide))
  have w6 : u6 27 = u2 27 := by rw [f6 27 (by decide), f5 27 (by decide), w4]
  have z6 : u6 28 = u4 28 := by rw [f6 28 (by decide), f5 28 (by decide)]
  have fr6 : td_fr v0 u6 := fun c h1 h2 h3 h4 => by rw [f6 c h4, f5 c h1, fr4 c h1 h2 h3 h4]
  ((repeat' first | refine hP _ ?_ | fail); try dsimp only)
  refine ⟨vp_in_nI (by omega) (by omega), ?_⟩
  ((repeat' first | refine hP _ ?_ | fail); try dsimp only)
  refine ⟨vp_in_nI (by omega) (by omega), ?_⟩
  ((repeat' first | refine hP _ ?_ | fail); try dsimp only)
  rw [nI_clamp (by omega), w6, c2, c6]
  refine ⟨fun q => ?_, fun q => ?_⟩
  · rw [if_neg (fun z => q ((ac_eq ho ho3).mpr z))] at hO
    ((repeat' first | refine hP _ ?_ | fail); try dsimp only)
    refine ⟨Or.inr rfl, hO _ _ _ rfl ⟨r6, fr6, ⟨by simp [hsk], by omega⟩, tr_push hat hsk (ac_lt ho) (ac_lt ho3) (fun i hi => ⟨?_, ?_, g6 i (by omega)⟩) (by rw [w6, c2]) c6 ?_⟩⟩
    · rw [w6, g2 i (by omega)]
    · rw [z6, g4 i (by omega)]
    · rw [z6, c4]
      exact decide_eq_true_iff.symm
  · rw [if_pos ((ac_eq ho ho3).mp q)] at hE
    ((repeat' first | refine hP _ ?_ | fail); try dsimp only)
    rw [r6.1.2, show nI (p + 3) - 1 = nI (p + 2) from nI_pred (p + 2)]
    refine m_fails hR ?_
    ((repeat' first | refine hP _ ?_ | fail); try dsimp only)
    exact ⟨Or.inl rfl, hE (6, p + 2) _ rfl (fe _ fr6) (by rw [am_up_eq, if_pos ⟨rfl, rfl⟩]; rfl)⟩
/-- the lines as the reference has read them -/
def tr_rr (v : am_V) (s : List tr_L) : Prop := ∀ i x y e, s[i]? = some (x, y, e) → x < 16 ∧ y < 16 ∧ v 90 i = nI x ∧ v 91 i = nI y ∧ v 94 i = (if e = true then 1 else 0)
def frT (v v' : am_V) : Prop := (∀ k, k ≠ 62 → k ≠ 90 → k ≠ 91 → k ≠ 94 → v' k = v k) ∧ ∀ j, j ≠ 7 → j ≠ 9 → j ≠ 49 → v' 62 j = v 62 j
theorem frT.rf : frT v v := ⟨fun _ _ _ _ _ => rfl, fun _ _ _ _ => rfl⟩
theorem frT.tr {v1 v2 : am_V} (h1 : frT v v1) (h2 : frT v1 v2) : frT v v2 := ⟨fun k a b c e => by rw [h2.1 k a b c e, h1.1 k a b c e], fun j a b c => by rw [h2.2 j a b c, h1.2 j a b c]⟩
theorem frT.up {v1 : am_V} (h1 : frT v v1) {j : Nat} (hj : j = 7 ∨ j = 9 ∨ j = 49) (x : Int32) : frT v (am_up v1 62 j x) := ⟨fun k hk h2 h3 h4 => by rw [am_up_ne _ _ _ hk, h1.1 k hk h2 h3 h4], fun i a b c => by rw [am_up_eq, if_neg (fun q => by have := q.2; omega), h1.2 i a b c]⟩
theorem frT.ar {v1 : am_V} (h1 : frT v v1) {c j : Nat} (hc : c = 90 ∨ c = 91 ∨ c = 94) (x : Int32) : frT v (am_up v1 c j x) := ⟨fun k hk h2 h3 h4 => by rw [am_up_ne _ _ _ (by omega), h1.1 k hk h2 h3 h4], fun i a b c' => by rw [am_up_ne _ _ _ (by omega), h1.2 i a b c']⟩
theorem rr_push {v v' : am_V} {s : List tr_L} {x y : Nat} {e : Bool} {k : Nat} (h : tr_rr v s) (hk : s.length = k) (hx : x < 16) (hy : y < 16) (hs : ∀ i, i < k → v' 90 i = v 90 i ∧ v' 91 i = v 91 i ∧ v' 94 i = v 94 i) (h1 : v' 90 k = nI x) (h2 : v' 91 k = nI y) (h3 : v' 94 k = (if e = true then 1 else 0)) : tr_rr v' (s ++ [(x, y, e)]) := by
  intro i x' y' e' he
  rcases Nat.lt_or_ge i k with q | q
  · rw [List.getElem?_append_left (by omega)] at he
    have := h i x' y' e' he
    rw [(hs i q).1, (hs i q).2.1, (hs i q).2.2]
    exact this
  · rw [List.getElem?_append_right (by omega)] at he
    have hi : i - s.length = 0 := by
      rcases Nat.eq_zero_or_pos (i - s.length) with z | z
      · exact z
      · rw [List.getElem?_eq_none (by simp; omega)] at he
        exact absurd he (by simp)
    rw [hi] at he
    have e : x = x' ∧ y = y' ∧ e = e' := by simpa using he
    obtain ⟨rfl, rfl, rfl⟩ := e
    have : i = k := by omega
    subst this
    exact ⟨hx, hy, h1, h2, h3⟩
set_option maxRecDepth 100000 in
set_option maxHeartbeats 4000000 in
theorem m_readsPair (hr : rdR v T n p) (hs : s.length = k) (hk24 : k ≤ 24) (h49 : v 62 49 = nI k) (hat : tr_rr v s) (hE : ∀ (e : Nat × Nat) (v' : am_V), trL T n k p = .error e → frT v v' → v' 62 9 = flt e → Q (some (.int 0)) (am_sh, v', w)) (hO : ∀ (p1 : Nat) (o : tr_L) (v' : am_V), trL T n k p = .ok (p1, o) → frT v v' → rdR v' T n p1 → v' 62 49 = nI (k + 1) → tr_rr v' (s ++ [o]) → Q (some (.int 1)) (am_sh, v', w)) : am_run K I am_m (d + 2) 199 [.ref 62] (am_sh, v, w) 0 0 Q := by
  have hn := hr.2.2.1
  unfold trL at hE hO
  refine en_X12_readsPair rfl ?_
  intro P hP
  ((repeat' first | refine hP _ ?_ | fail); try dsimp only)
  refine m_here hr ?_
  ((repeat' first | refine hP _ ?_ | fail); try dsimp only)
  refine m_X12_in (fun i1 i2 => ?_) (fun i0 => ?_)
  rotate_left
  · have ho : onl acL (cc T n p) = false := by
      cases h : onl acL (cc T n p)
      · rfl
      · exact (am_no i0 (ac_iff.mp h).1 (ac_iff.mp h).2).elim
    rw [ho, if_pos rfl] at hE
    ((repeat' first | refine hP _ ?_ | fail); try dsimp only)
    refine ⟨fun c => absurd rfl c, fun _ => ?_⟩
    ((repeat' first | refine hP _ ?_ | fail); try dsimp only)
    rw [hr.1.1]
    refine m_wrongAt ?_
    ((repeat' first | refine hP _ ?_ | fail); try dsimp only)
    exact ⟨Or.inl rfl, hE (1, p) _ rfl (frT.rf.up (by omega) _) (by rw [am_up_eq, if_pos ⟨rfl, rfl⟩]; rfl)⟩
  have ho : onl acL (cc T n p) = true := ac_iff.mpr ⟨i1, i2⟩
  have hpl := onl_lt ac_m1 ho
  rw [ho, if_neg (by decide)] at hE hO
  rw [ac_sub ho]
  ((repeat' first | refine hP _ ?_ | fail); try dsimp only)
  refine ⟨fun _ => ?_, fun c => absurd c (by decide)⟩
  ((repeat' first | refine hP _ ?_ | fail); try dsimp only)
  rw [h49]
  by_cases hk : 24 ≤ k
  · rw [if_pos hk] at hE
    rw [show k = 24 by omega]
    refine ⟨fun c => absurd rfl c, fun _ => ?_⟩
    ((repeat' first | refine hP _ ?_ | fail); try dsimp only)
    rw [hr.1.1]
    refine m_wrongAt ?_
    ((repeat' first | refine hP _ ?_ | fail); try dsimp only)
    exact ⟨Or.inl rfl, hE (4, p) _ rfl (frT.rf.up (by omega) _) (by rw [am_up_eq, if_pos ⟨rfl, rfl⟩]; rfl)⟩
  rw [if_neg hk] at hE hO
  refine ⟨fun _ => ?_, fun c => absurd ((nI_eq (b := 24) (by omega) (by omega)).mp c) (by omega)⟩
  ((iterate 7 refine hP _ ?_); try dsimp only)
  rw [hr.1.1, nI_1]
  generalize hu1 : am_up v 62 7 (nI (p + 1)) = u1
  have f1 : frT v u1 := by
    rw [← hu1]
    exact frT.rf.up (by omega) _
  have e7 : u1 62 7 = nI (p + 1) := by rw [← hu1, am_up_eq, if_pos ⟨rfl, rfl⟩]
  have e49 : u1 62 49 = nI k := by rw [← hu1, am_up_eq, if_neg (by decide), h49]
  have a1 : ∀ c, c ≠ 62 → u1 c = v c := fun c hc => by rw [← hu1, am_up_ne _ _ _ hc]
  have r1 : rdR u1 T n (p + 1) := ⟨⟨e7, by rw [f1.2 8 (by decide) (by decide) (by decide)]; exact hr.1.2⟩, by rw [a1 66 (by decide)]; exact hr.2.1, hn, hpl⟩
  clear hu1
  ((repeat' first | refine hP _ ?_ | fail); try dsimp only)
  refine m_here r1 ?_
  have good : onl sgL2 (cc T n (p + 1)) = true → P (cd_X12_readsPair.drop 47, [some (.ref 62), some (.int (nI (ac (cc T n p)))), some (.int (cc T n (p + 1))), none], [], (am_sh, u1, w), 0, 0) := by
    intro ho2
    have hpl2 := onl_lt sg_m1 ho2
    rw [ho2, if_neg (by decide)] at hE hO
    ((iterate 7 refine hP _ ?_); try dsimp only)
    rw [e7, nI_1]
    generalize hu2 : am_up u1 62 7 (nI (p + 1 + 1)) = u2
    have f2 : frT v u2 := by
      rw [← hu2]
      exact f1.up (by omega) _
    have y7 : u2 62 7 = nI (p + 2) := by rw [← hu2, am_up_eq, if_pos ⟨rfl, rfl⟩]
    have y49 : u2 62 49 = nI k := by rw [← hu2, am_up_eq, if_neg (by decide), e49]
    have a2 : ∀ c, c ≠ 62 → u2 c = v c := fun c hc => by rw [← hu2, am_up_ne _ _ _ hc, a1 c hc]
    have r2 : rdR u2 T n (p + 2) := ⟨⟨y7, by rw [f2.2 8 (by decide) (by decide) (by decide)]; exact hr.1.2⟩, by rw [a2 66 (by decide)]; exact hr.2.1, hn, hpl2⟩
    clear hu2
    ((repeat' first | refine hP _ ?_ | fail); try dsimp only)
    refine m_here r2 ?_
    ((repeat' first | refine hP _ ?_ | fail); try dsimp only)
    refine m_X12_in (fun i1 i2 => ?_) (fun i0 => ?_)
    rotate_left
    · have ho3 : onl acL (cc T n (p + 2)) = false := by
        cases h : onl acL (cc T n (p + 2))
        · rfl
        · exact (am_no i0 (ac_iff.mp h).1 (ac_iff.mp h).2).elim
      rw [ho3, if_pos rfl] at hE
      ((repeat' first | refine hP _ ?_ | fail); try dsimp only)
      refine ⟨fun c => absurd rfl c, fun _ => ?_⟩
      ((repeat' first | refine hP _ ?_ | fail); try dsimp only)
      rw [y7]
      refine m_wrongAt ?_
      ((repeat' first | refine hP _ ?_ | fail); try dsimp only)
      exact ⟨Or.inl rfl, hE (1, p + 2) _ rfl (f2.up (by omega) _) (by rw [am_up_eq, if_pos ⟨rfl, rfl⟩]; rfl)⟩
    have ho3 : onl acL (cc T n (p + 2)) = true := ac_iff.mpr ⟨i1, i2⟩
    have hpl3 := onl_lt ac_m1 ho3
    rw [ho3, if_neg (by decide)] at hE hO
    rw [ac_sub ho3]
    ((repeat' first | refine hP _ ?_ | fail); try dsimp only)
    refine ⟨fun _ => ?_, fun c => absurd c (by decide)⟩
    ((repeat' first | refine hP _ ?_ | fail); try dsimp only)
    refine ⟨fun q => ?_, fun q => ?_⟩
    · rw [if_neg (fun z => q ((ac_eq ho ho3).mpr z))] at hO
      ((iterate 7 refine hP _ ?_); try dsimp only)
      rw [y7, nI_1]
      generalize hu3 : am_up u2 62 7 (nI (p + 2 + 1)) = u3
      have f3 : frT v u3 := by
        rw [← hu3]
        exact f2.up (by omega) _
      have z7 : u3 62 7 = nI (p + 3) := by rw [← hu3, am_up_eq, if_pos ⟨rfl, rfl⟩]
      have z49 : u3 62 49 = nI k := by rw [← hu3, am_up_eq, if_neg (by decide), y49]
      have a3 : ∀ c, c ≠ 62 → u3 c = v c := fun c hc => by rw [← hu3, am_up_ne _ _ _ hc, a2 c hc]
      clear hu3
      ((repeat' first | refine hP _ ?_ | fail); try dsimp only)
      rw [z49]
      refine ⟨vp_in_nI (by omega) (by omega), ?_⟩
      ((repeat' first | refine hP _ ?_ | fail); try dsimp only)
      rw [am_up_ne _ _ _ (show (62 : Nat) ≠ 90 by decide), z49]
      refine ⟨vp_in_nI (by omega) (by omega), ?_⟩
      dsimp only
      rw [nI_clamp (by omega)]
      generalize hu4 : am_up (am_up u3 90 k (nI (ac (cc T n p)))) 91 k (nI (ac (cc T n (p + 2)))) = u4
      have f4 : frT v u4 := by
        rw [← hu4]
        exact (f3.ar (by omega) _).ar (by omega) _
      have w62 : u4 62 = u3 62 := by rw [← hu4, am_up_ne _ _ _ (by decide), am_up_ne _ _ _ (by decide)]
      have w90 : ∀ i, u4 90 i = if i = k then nI (ac (cc T n p)) else v 90 i := fun i => by
        rw [← hu4, am_up_ne _ _ _ (by decide), am_up_eq, a3 90 (by decide)]
        by_cases g : i = k
        · rw [if_pos ⟨rfl, g⟩, if_pos g]
        · rw [if_neg (fun z => g z.2), if_neg g]
      have w91 : ∀ i, u4 91 i = if i = k then nI (ac (cc T n (p + 2))) else v 91 i := fun i => by
        rw [← hu4, am_up_eq, am_up_ne _ _ _ (show (91 : Nat) ≠ 90 by decide), a3 91 (by decide)]
        by_cases g : i = k
        · rw [if_pos ⟨rfl, g⟩, if_pos g]
        · rw [if_neg (fun z => g z.2), if_neg g]
      have w94 : u4 94 = v 94 := by rw [← hu4, am_up_ne _ _ _ (by decide), am_up_ne _ _ _ (by decide), a3 94 (by decide)]
      have w66 : u4 66 = v 66 := by rw [← hu4, am_up_ne _ _ _ (by decide), am_up_ne _ _ _ (by decide), a3 66 (by decide)]
      clear hu4
      -- the sign
      have fin : ∀ y : Int32, y = (if decide (cc T n (p + 1) = 61) = true then 1 else 0) → P (cd_X12_readsPair.drop 106, [some (.ref 62), some (.int (nI (ac (cc T n p)))), some (.int (cc T n (p + 1))), some (.int (nI (ac (cc T n (p + 2)))))], [.int y, .int (nI k), .ref 94], (am_sh, u4, w), 0, 0) := by
        intro y hy
        have hb : vp_nar .boolean y = y := by
          rw [hy]
          cases decide (cc T n (p + 1) = 61) <;> decide
        ((repeat' first | refine hP _ ?_ | fail); try dsimp only)
        refine ⟨vp_in_nI (by omega) (by omega), ?_⟩
        dsimp only
        rw [nI_clamp (by omega), hb]
        ((repeat' first | refine hP _ ?_ | fail); try dsimp only)
        rw [am_up_ne _ _ _ (show (62 : Nat) ≠ 94 by decide), w62, z49, nI_1]
        refine ⟨Or.inr rfl, hO _ _ _ rfl ((f4.ar (by omega) _).up (by omega) _) ⟨⟨?_, ?_⟩, ?_, hn, by omega⟩ (by rw [am_up_eq, if_pos ⟨rfl, rfl⟩]) (rr_push hat hs (ac_lt ho) (ac_lt ho3) (fun i hi => ⟨?_, ?_, ?_⟩) ?_ ?_ ?_)⟩
        · rw [am_up_eq, if_neg (by decide), am_up_ne _ _ _ (by decide), w62, z7]
        · rw [am_up_eq, if_neg (by decide), am_up_ne _ _ _ (by decide), w62, f3.2 8 (by decide) (by decide) (by decide)]
          exact hr.1.2
        · rw [am_up_ne _ _ _ (by decide), am_up_ne _ _ _ (by decide), w66]
          exact hr.2.1
        · rw [am_up_ne _ _ _ (by decide), am_up_ne _ _ _ (by decide), w90, if_neg (by omega)]
        · rw [am_up_ne _ _ _ (by decide), am_up_ne _ _ _ (by decide), w91, if_neg (by omega)]
        · rw [am_up_ne _ _ _ (by decide), am_up_eq, if_neg (fun z => by have := z.2; omega), w94]
        · rw [am_up_ne _ _ _ (by decide), am_up_ne _ _ _ (by decide), w90, if_pos rfl]
        · rw [am_up_ne _ _ _ (by decide), am_up_ne _ _ _ (by decide), w91, if_pos rfl]
        · rw [am_up_ne _ _ _ (by decide), am_up_eq, if_pos ⟨rfl, rfl⟩, hy]
      ((repeat' first | refine hP _ ?_ | fail); try dsimp only)
      rw [w62, z49]
      refine ⟨fun c => ?_, fun c => ?_⟩
      · ((iterate 1 refine hP _ ?_); try dsimp only)
        exact fin 0 (by rw [if_neg (by simpa using c)])
      · ((iterate 2 refine hP _ ?_); try dsimp only)
        exact fin 1 (by rw [if_pos (by simpa using c)])
    · rw [if_pos ((ac_eq ho ho3).mp q)] at hE
      ((repeat' first | refine hP _ ?_ | fail); try dsimp only)
      rw [y7]
      refine m_wrongAt ?_
      ((repeat' first | refine hP _ ?_ | fail); try dsimp only)
      exact ⟨Or.inl rfl, hE (6, p + 2) _ rfl (f2.up (by omega) _) (by rw [am_up_eq, if_pos ⟨rfl, rfl⟩]; rfl)⟩
  ((repeat' first | refine hP _ ?_ | fail); try dsimp only)
  refine ⟨fun c => good (by rw [c]; decide), fun c1 => ?_⟩
  ((repeat' first | refine hP _ ?_ | fail); try dsimp only)
  refine ⟨fun c => good (by rw [c]; decide), fun c2 => ?_⟩
  have ho2 : onl sgL2 (cc T n (p + 1)) = false := by
    cases h : onl sgL2 (cc T n (p + 1))
    · rfl
    · exact ((sg_2.mp h).elim c1 c2).elim
  rw [ho2, if_pos rfl] at hE
  ((repeat' first | refine hP _ ?_ | fail); try dsimp only)
  rw [e7]
  refine m_wrongAt ?_
  ((repeat' first | refine hP _ ?_ | fail); try dsimp only)
  exact ⟨Or.inl rfl, hE (1, p + 1) _ rfl (f1.up (by omega) _) (by rw [am_up_eq, if_pos ⟨rfl, rfl⟩]; rfl)⟩
set_option maxRecDepth 100000 in
set_option maxHeartbeats 4000000 in
theorem lp_treaty {P : am_C → Prop} (hP : ∀ c, am_step K I (am_run K I am_m (d + 2)) cd_X12_treaty 0 0 Q P c → P c) : ∀ (f k p : Nat) (s : List tr_L) (u : am_V), n ≤ p + f → s.length = k → k ≤ 24 → rdR u T n p → u 62 49 = nI k → tr_rr u s → frT v u → (∀ e u', txR (trS T n) T n f k p s = .error e → frT v u' → u' 62 9 = flt e → P (cd_X12_treaty.drop 39, [some (.ref 62), some (.int (nI n)), some (.int 0), none], [], (am_sh, u', w), 0, 0)) → (∀ k1 s1 u', txR (trS T n) T n f k p s = .ok (k1, s1) → frT v u' → s1.length = k1 → k1 ≤ 24 → u' 62 49 = nI k1 → tr_rr u' s1 → P (cd_X12_treaty.drop 39, [some (.ref 62), some (.int (nI n)), some (.int 1), none], [], (am_sh, u', w), 0, 0)) → P (cd_X12_treaty.drop 20, [some (.ref 62), some (.int (nI n)), some (.int 1), none], [], (am_sh, u, w), 0, 0) := by
  have bad : ∀ u : am_V, P (cd_X12_treaty.drop 39, [some (.ref 62), some (.int (nI n)), some (.int 0), none], [], (am_sh, u, w), 0, 0) → P (cd_X12_treaty.drop 36, [some (.ref 62), some (.int (nI n)), some (.int 1), none], [], (am_sh, u, w), 0, 0) := by
    intro u h
    ((repeat' first | refine hP _ ?_ | fail); try dsimp only)
    exact ⟨fun _ => h, fun c => absurd rfl c⟩
  intro f
  induction f with
  | zero =>
    intro k p s u hf hsk hk hr h49 hat hfr hE hO
    have hn := hr.2.2.1
    have hp := hr.2.2.2
    unfold txR at hO
    rw [if_pos (show n ≤ p by omega)] at hO
    ((repeat' first | refine hP _ ?_ | fail); try dsimp only)
    refine ⟨fun c => absurd c (by decide), fun _ => ?_⟩
    ((repeat' first | refine hP _ ?_ | fail); try dsimp only)
    rw [hr.1.1, hr.1.2]
    refine ⟨fun _ => hO k s u rfl hfr hsk hk h49 hat, fun c => absurd (nI_le (show n ≤ p by omega) (by omega)) c⟩
  | succ f ih =>
    intro k p s u hf hsk hk hr h49 hat hfr hE hO
    have hn := hr.2.2.1
    have hp := hr.2.2.2
    unfold txR at hE hO
    ((repeat' first | refine hP _ ?_ | fail); try dsimp only)
    refine ⟨fun c => absurd c (by decide), fun _ => ?_⟩
    ((repeat' first | refine hP _ ?_ | fail); try dsimp only)
    rw [hr.1.1, hr.1.2]
    refine ⟨fun c => ?_, fun c => ?_⟩
    · have c := (nI_leI (by omega) (by omega)).mp c
      rw [if_pos c] at hO
      exact hO k s u rfl hfr hsk hk h49 hat
    · have c : ¬ n ≤ p := fun q => c (nI_le q (by omega))
      rw [if_neg c] at hE hO
      ((repeat' first | refine hP _ ?_ | fail); try dsimp only)
      refine m_takesR hr (by decide) (fun g => ?_) (fun g hlt => ?_)
      · rw [if_neg g] at hE
        ((repeat' first | refine hP _ ?_ | fail); try dsimp only)
        refine ⟨fun _ => ?_, fun c => absurd rfl c⟩
        exact bad _ (hE (1, p) _ rfl (hfr.up (by omega) _) (by rw [am_up_eq, if_pos ⟨rfl, rfl⟩]))
      · rw [if_pos g, txF_s] at hE hO
        have f1 : frT v (am_up u 62 7 (nI (p + 1))) := hfr.up (by omega) _
        have r1 : rdR (am_up u 62 7 (nI (p + 1))) T n (p + 1) := ⟨⟨by rw [am_up_eq, if_pos ⟨rfl, rfl⟩], by rw [am_up_eq, if_neg (by decide)]; exact hr.1.2⟩, by rw [am_up_ne _ _ _ (by decide)]; exact hr.2.1, hn, hlt⟩
        have at1 : tr_rr (am_up u 62 7 (nI (p + 1))) s := by
          unfold tr_rr
          rw [am_up_ne _ _ _ (show (90 : Nat) ≠ 62 by decide), am_up_ne _ _ _ (show (91 : Nat) ≠ 62 by decide), am_up_ne _ _ _ (show (94 : Nat) ≠ 62 by decide)]
          exact hat
        ((repeat' first | refine hP _ ?_ | fail); try dsimp only)
        refine ⟨fun c => absurd c (by decide), fun _ => ?_⟩
        ((repeat' first | refine hP _ ?_ | fail); try dsimp only)
        refine m_readsPair r1 hsk hk (by rw [am_up_eq, if_neg (by decide)]; exact h49) at1 (fun e u' he f' h9 => ?_) (fun p1 o u' he f' r' h49' at' => ?_)
        · unfold trS at hE
          rw [he] at hE
          ((repeat' first | refine hP _ ?_ | fail); try dsimp only)
          refine ⟨fun _ => ?_, fun c => absurd rfl c⟩
          exact bad _ (hE e _ rfl (f1.tr f') h9)
        · obtain ⟨hp1, hp2, hk2, -, -⟩ := trL_ok he
          unfold trS at hE hO
          rw [he] at hE hO
          dsimp only at hE hO
          ((repeat' first | refine hP _ ?_ | fail); try dsimp only)
          refine ⟨fun c => absurd c (by decide), fun _ => ?_⟩
          ((iterate 4 refine hP _ ?_); try dsimp only)
          exact ih (k + 1) p1 (s ++ [o]) u' (by omega) (by simp [hsk]) (by omega) r' h49' at' (f1.tr f') hE hO
end M82
