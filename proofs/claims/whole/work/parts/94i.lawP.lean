/-! ===== pair: law ===== -/
theorem txF_inv {σ : Type} {L : Nat → Nat → σ → Except (Nat × Nat) (Nat × σ)} {T : Nat → Int32} {n : Nat} (G : σ → Prop) (hL : ∀ k p s p1 s1, G s → L k p s = .ok (p1, s1) → G s1) : ∀ (f k p : Nat) (s : σ) (k1 : Nat) (s1 : σ), G s → txF L T n f k p s = .ok (k1, s1) → G s1 := by
  intro f
  induction f with
  | zero =>
    intro k p s k1 s1 _ h
    exact absurd h (by simp [txF])
  | succ f ih =>
    intro k p s k1 s1 hG h
    rw [txF_s] at h
    cases ho : L k p s with
    | error e =>
      rw [ho] at h
      exact absurd h (by simp)
    | ok y =>
      obtain ⟨p2, s2⟩ := y
      rw [ho] at h
      have g2 := hL k p s p2 s2 hG ho
      dsimp only at h
      unfold txR at h
      split at h
      · have : k + 1 = k1 ∧ s2 = s1 := by simpa using h
        rw [← this.2]
        exact g2
      · split at h
        · exact ih _ _ _ _ _ g2 h
        · exact absurd h (by simp)
def lawG (s : List lc_U) : Prop := ∀ (q : Nat) (l : Nat) (A B : List lc_O), s[q]? = some (l, A, B) → l < 256 ∧ lc_okT B ∧ (lc_isA l → lc_okA A)
theorem lawG_s {T : Nat → Int32} {n k p p1 : Nat} {s s1 : List lc_U} (hn : n ≤ 240) (hG : lawG s) (h : lawL T n k p s = .ok (p1, s1)) : lawG s1 := by
  obtain ⟨ho, -, -, u, hu, rfl⟩ := law_ok hn h
  have hlt := onl_lt lw_m1 ho
  obtain ⟨q1, A, B, ha, ht, rfl, -⟩ := ru_ok hn hlt hu
  obtain ⟨-, hl, hA, -⟩ := lw_c ho
  have l1 := am_ok hn hlt ha
  have l2 := ts_ok hn l1.1 ht
  intro q l2' A2 B2 hq
  rcases Nat.lt_or_ge q s.length with g | g
  · rw [List.getElem?_append_left g] at hq
    exact hG q l2' A2 B2 hq
  · rw [List.getElem?_append_right g] at hq
    have := lt_of_get hq
    rw [show q - s.length = 0 by simp at this; omega] at hq
    have e : (lwN (cc T n p), A, B) = (l2', A2, B2) := by simpa using hq
    have e1 : lwN (cc T n p) = l2' := congrArg Prod.fst e
    have e2 : A = A2 := congrArg (fun x => x.2.1) e
    have e3 : B = B2 := congrArg (fun x => x.2.2) e
    subst e1 e2 e3
    exact ⟨hl, l2.2.2.2, fun t => l1.2.2 (hA.mp t)⟩
theorem INV.lwc {v v' : am_V} (hI : INV v) (h : ∀ k, k ∈ [0, 22, 23, 24, 25, 30, 31, 32, 36, 37, 38, 63, 65, 88, 89, 93] → v' k = v k) (h62 : ∀ j, j ∈ [3, 4, 48, 62] → v' 62 j = v 62 j) (h1 : v' 1 1 = 0) (h6 : v' 62 6 = 0) (hl : iv_law v') : INV v' := by
  obtain ⟨hm, hk, hmi, ht, -, hr⟩ := hI
  refine ⟨?_, ?_, ?_, ⟨0, by omega, h1, h6, fun i hi => absurd hi (by omega)⟩, hl, ?_⟩
  · unfold iv_meet iv_rng
    rw [h 30 (by decide), h 31 (by decide), h 32 (by decide), h 63 (by decide)]
    exact hm
  · unfold iv_meet iv_rng
    rw [h 0 (by decide), h 36 (by decide), h 37 (by decide), h 38 (by decide), h 65 (by decide)]
    exact hk
  · unfold iv_misc
    rw [h 0 (by decide), h62 62 (by decide), h62 3 (by decide), h62 4 (by decide)]
    exact hmi
  · unfold iv_tre
    rw [h 22 (by decide), h 23 (by decide), h 24 (by decide), h 25 (by decide), h62 48 (by decide), h 88 (by decide), h 89 (by decide), h 93 (by decide)]
    exact hr
section M94i
variable {K : am_K} {I : am_I} {d : Nat} {v0 : am_V} {w : am_X} {Q : Option Value → am_H → Prop} {T : Nat → Int32} {n : Nat}
set_option maxRecDepth 100000 in
set_option maxHeartbeats 4000000 in
theorem lp_law {P : am_C → Prop} (hP : ∀ c, am_step K I (am_run K I am_m (d + 9)) cd_X12_law 0 0 Q P c → P c) : ∀ (f k p : Nat) (s : List lc_U) (u : am_V), n ≤ p + f → rl_S v0 T n k p s u → (∀ e u', txR (lawL T n) T n f k p s = .error e → rl_fr v0 u' → u' 62 9 = flt e → P (cd_X12_law.drop 36, [some (.ref 62), some (.int (nI n)), some (.int 0), none], [], (am_sh, u', w), 0, 0)) → (∀ k1 p1 s1 u', txR (lawL T n) T n f k p s = .ok (k1, s1) → rl_S v0 T n k1 p1 s1 u' → P (cd_X12_law.drop 36, [some (.ref 62), some (.int (nI n)), some (.int 1), none], [], (am_sh, u', w), 0, 0)) → P (cd_X12_law.drop 17, [some (.ref 62), some (.int (nI n)), some (.int 1), none], [], (am_sh, u, w), 0, 0) := by
  have bad : ∀ u : am_V, P (cd_X12_law.drop 36, [some (.ref 62), some (.int (nI n)), some (.int 0), none], [], (am_sh, u, w), 0, 0) → P (cd_X12_law.drop 33, [some (.ref 62), some (.int (nI n)), some (.int 1), none], [], (am_sh, u, w), 0, 0) := by
    intro u h
    ((repeat' first | refine hP _ ?_ | fail); try dsimp only)
    exact ⟨fun _ => h, fun c => absurd rfl c⟩
  intro f
  induction f with
  | zero =>
    intro k p s u hf hS hE hO
    have hr := hS.1
    have hn := hr.2.2.1
    have hp := hr.2.2.2
    unfold txR at hO
    rw [if_pos (show n ≤ p by omega)] at hO
    ((repeat' first | refine hP _ ?_ | fail); try dsimp only)
    refine ⟨fun c => absurd c (by decide), fun _ => ?_⟩
    ((repeat' first | refine hP _ ?_ | fail); try dsimp only)
    rw [hr.1.1, hr.1.2]
    refine ⟨fun _ => hO k p s u rfl hS, fun c => absurd (nI_le (show n ≤ p by omega) (by omega)) c⟩
  | succ f ih =>
    intro k p s u hf hS hE hO
    have hr := hS.1
    have hn := hr.2.2.1
    have hp := hr.2.2.2
    unfold txR at hE
    simp only [txR] at hO
    ((repeat' first | refine hP _ ?_ | fail); try dsimp only)
    refine ⟨fun c => absurd c (by decide), fun _ => ?_⟩
    ((repeat' first | refine hP _ ?_ | fail); try dsimp only)
    rw [hr.1.1, hr.1.2]
    refine ⟨fun c => ?_, fun c => ?_⟩
    · have c := (nI_leI (by omega) (by omega)).mp c
      simp only [if_pos c] at hO
      exact hO k p s u rfl hS
    · have c : ¬ n ≤ p := fun q => c (nI_le q (by omega))
      rw [if_neg c] at hE
      simp only [if_neg c] at hO
      ((repeat' first | refine hP _ ?_ | fail); try dsimp only)
      refine m_takesR hr (by decide) (fun g => ?_) (fun g hlt => ?_)
      · rw [if_neg g] at hE
        ((repeat' first | refine hP _ ?_ | fail); try dsimp only)
        refine ⟨fun _ => ?_, fun c => absurd rfl c⟩
        exact bad _ (hE (1, p) _ rfl (hS.2.1.u62 (by omega) _) (by rw [am_up_eq, if_pos ⟨rfl, rfl⟩]))
      · rw [if_pos g, txF_s] at hE
        simp only [if_pos g, txF_s] at hO
        have S1 : rl_S v0 T n k (p + 1) s (am_up u 62 7 (nI (p + 1))) := by
          obtain ⟨a1, a2, a3, a4, z, a5, a6, a7⟩ := hS
          refine ⟨hr.u ?_ ?_ ?_ hlt, a2.u62 (by omega) _, a3, ?_, z, by omega, ?_, ?_⟩
          · rw [am_up_ne _ _ _ (by decide)]
          · rw [am_up_eq, if_pos ⟨rfl, rfl⟩]
          · rw [am_up_eq, if_neg (by decide)]
          · rw [am_up_eq, if_neg (by decide), a4]
          · rw [am_up_eq, if_neg (by decide), a6]
          · rw [am_up_ne _ _ _ (by decide), am_up_ne _ _ _ (by decide), am_up_ne _ _ _ (by decide), am_up_ne _ _ _ (by decide), am_up_ne _ _ _ (by decide)]
            exact a7
        ((repeat' first | refine hP _ ?_ | fail); try dsimp only)
        refine ⟨fun c => absurd c (by decide), fun _ => ?_⟩
        ((repeat' first | refine hP _ ?_ | fail); try dsimp only)
        refine m_readsRule S1 (fun e u' he f' h9 => ?_) (fun p1 s1 u' he S2 => ?_)
        · rw [he] at hE
          ((repeat' first | refine hP _ ?_ | fail); try dsimp only)
          refine ⟨fun _ => ?_, fun c => absurd rfl c⟩
          exact bad _ (hE e _ rfl f' h9)
        · rw [he] at hE
          simp only [he] at hO
          obtain ⟨q1, q2, q3, -⟩ := law_ok hn he
          have hp1 : p + 1 < p1 := by
            obtain ⟨-, -, -, x, hx, -⟩ := law_ok hn he
            obtain ⟨r1, A, B, ha, ht, -, -⟩ := ru_ok hn (onl_lt lw_m1 q1) hx
            have l1 := am_ok hn (onl_lt lw_m1 q1) ha
            have l2 := ts_ok hn l1.1 ht
            omega
          ((repeat' first | refine hP _ ?_ | fail); try dsimp only)
          refine ⟨fun c => absurd c (by decide), fun _ => ?_⟩
          ((iterate 4 refine hP _ ?_); try dsimp only)
          exact ih (k + 1) p1 s1 u' (by omega) S2 hE hO
set_option maxRecDepth 100000 in
set_option maxHeartbeats 4000000 in
theorem lp_cpA {P : am_C → Prop} (hP : ∀ c, am_step K I (am_run K I am_m (d + 9)) cd_X12_law 0 0 Q P c → P c) {z : Nat} (hz : z ≤ 240) {v : am_V} (h12 : v 62 12 = nI z) (h : ∀ u i, (∀ c, c ≠ 73 → u c = v c) → (∀ j, j < z → u 73 j = v 67 j) → P (cd_X12_law.drop 64, [some (.ref 62), some (.int (nI n)), some (.int 1), some (.int (nI i))], [], (am_sh, u, w), 0, 0)) : ∀ (f i : Nat) (u : am_V), i + f = z → (∀ c, c ≠ 73 → u c = v c) → (∀ j, j < i → u 73 j = v 67 j) → P (cd_X12_law.drop 50, [some (.ref 62), some (.int (nI n)), some (.int 1), some (.int (nI i))], [], (am_sh, u, w), 0, 0) := by
  intro f
  induction f with
  | zero =>
    intro i u hi h1 h2
    ((repeat' first | refine hP _ ?_ | fail); try dsimp only)
    rw [h1 62 (by decide), h12]
    refine ⟨fun _ => h u i h1 (fun j hj => h2 j (by omega)), fun c => absurd (nI_le (show z ≤ i by omega) (by omega)) c⟩
  | succ f ih =>
    intro i u hi h1 h2
    ((repeat' first | refine hP _ ?_ | fail); try dsimp only)
    rw [h1 62 (by decide), h12]
    refine ⟨fun c => absurd c (nI_ge (by omega) (by omega)), fun _ => ?_⟩
    ((repeat' first | refine hP _ ?_ | fail); try dsimp only)
    refine ⟨vp_in_nI (by omega) (by omega), ?_⟩
    ((repeat' first | refine hP _ ?_ | fail); try dsimp only)
    refine ⟨vp_in_nI (by omega) (by omega), ?_⟩
    dsimp only
    rw [nI_clamp (by omega)]
    ((iterate 2 refine hP _ ?_); try dsimp only)
    rw [nI_1]
    refine ih (i + 1) _ (by omega) (fun c hc => by rw [am_up_ne _ _ _ hc, h1 c hc]) (fun j hj => ?_)
    rw [am_up_eq]
    by_cases q : j = i
    · rw [if_pos ⟨rfl, q⟩, h1 67 (by decide), q]
    · rw [if_neg (fun t => q t.2)]
      exact h2 j (by omega)
set_option maxRecDepth 100000 in
set_option maxHeartbeats 4000000 in
theorem lp_cpB {P : am_C → Prop} (hP : ∀ c, am_step K I (am_run K I am_m (d + 9)) cd_X12_law 0 0 Q P c → P c) {z : Nat} (hz : z ≤ 16) {v : am_V} (h14 : v 62 14 = nI z) (h : ∀ u i, (∀ c, c ≠ 74 → c ≠ 75 → c ≠ 76 → c ≠ 77 → u c = v c) → (∀ j, j < z → u 74 j = v 69 j ∧ u 75 j = v 70 j ∧ u 76 j = v 71 j ∧ u 77 j = v 72 j) → P (cd_X12_law.drop 104, [some (.ref 62), some (.int (nI n)), some (.int 1), some (.int (nI i))], [], (am_sh, u, w), 0, 0)) : ∀ (f i : Nat) (u : am_V), i + f = z → (∀ c, c ≠ 74 → c ≠ 75 → c ≠ 76 → c ≠ 77 → u c = v c) → (∀ j, j < i → u 74 j = v 69 j ∧ u 75 j = v 70 j ∧ u 76 j = v 71 j ∧ u 77 j = v 72 j) → P (cd_X12_law.drop 66, [some (.ref 62), some (.int (nI n)), some (.int 1), some (.int (nI i))], [], (am_sh, u, w), 0, 0) := by
  intro f
  induction f with
  | zero =>
    intro i u hi h1 h2
    ((repeat' first | refine hP _ ?_ | fail); try dsimp only)
    rw [h1 62 (by decide) (by decide) (by decide) (by decide), h14]
    refine ⟨fun _ => h u i h1 (fun j hj => h2 j (by omega)), fun c => absurd (nI_le (show z ≤ i by omega) (by omega)) c⟩
  | succ f ih =>
    intro i u hi h1 h2
    ((repeat' first | refine hP _ ?_ | fail); try dsimp only)
    rw [h1 62 (by decide) (by decide) (by decide) (by decide), h14]
    refine ⟨fun c => absurd c (nI_ge (by omega) (by omega)), fun _ => ?_⟩
    ((repeat' first | refine hP _ ?_ | fail); try dsimp only)
    refine ⟨vp_in_nI (by omega) (by omega), ?_⟩
    ((repeat' first | refine hP _ ?_ | fail); try dsimp only)
    refine ⟨vp_in_nI (by omega) (by omega), ?_⟩
    dsimp only
    rw [nI_clamp (by omega)]
    ((repeat' first | refine hP _ ?_ | fail); try dsimp only)
    refine ⟨vp_in_nI (by omega) (by omega), ?_⟩
    ((repeat' first | refine hP _ ?_ | fail); try dsimp only)
    refine ⟨vp_in_nI (by omega) (by omega), ?_⟩
    dsimp only
    rw [nI_clamp (by omega)]
    ((repeat' first | refine hP _ ?_ | fail); try dsimp only)
    refine ⟨vp_in_nI (by omega) (by omega), ?_⟩
    ((repeat' first | refine hP _ ?_ | fail); try dsimp only)
    refine ⟨vp_in_nI (by omega) (by omega), ?_⟩
    dsimp only
    rw [nI_clamp (by omega)]
    ((repeat' first | refine hP _ ?_ | fail); try dsimp only)
    refine ⟨vp_in_nI (by omega) (by omega), ?_⟩
    ((repeat' first | refine hP _ ?_ | fail); try dsimp only)
    refine ⟨vp_in_nI (by omega) (by omega), ?_⟩
    dsimp only
    rw [nI_clamp (by omega)]
    ((iterate 2 refine hP _ ?_); try dsimp only)
    rw [nI_1]
    refine ih (i + 1) _ (by omega) (fun c a b e g => by rw [am_up_ne _ _ _ g, am_up_ne _ _ _ e, am_up_ne _ _ _ b, am_up_ne _ _ _ a, h1 c a b e g]) (fun j hj => ?_)
    by_cases q : j = i
    · subst q
      simp [am_up_eq, h1 69, h1 70, h1 71, h1 72]
    · have := h2 j (by omega)
      simpa [am_up_eq, q] using this
end M94i
