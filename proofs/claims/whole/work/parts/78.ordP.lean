/-! ===== pair: orders ===== -/
/-- what is left of a text behind a line -/
def txR {σ : Type} (L : Nat → Nat → σ → Except (Nat × Nat) (Nat × σ)) (T : Nat → Int32) (n f k p : Nat) (s : σ) : Except (Nat × Nat) (Nat × σ) := if n ≤ p then .ok (k, s) else if cc T n p = 59 then txF L T n f k (p + 1) s else .error (1, p)
theorem txF_s {σ : Type} {L : Nat → Nat → σ → Except (Nat × Nat) (Nat × σ)} {T : Nat → Int32} {n f k p : Nat} {s : σ} : txF L T n (f + 1) k p s = match L k p s with
    | .error e => .error e
    | .ok (p1, s1) => txR L T n f (k + 1) p1 s1 := rfl
/-- what stays when the meeting has changed and the tape is cleared -/
theorem INV.mvc {v v' : am_V} (hI : INV v) (h : ∀ k, k ∈ [0, 3, 4, 5, 6, 7, 22, 23, 24, 25, 36, 37, 38, 65, 73, 74, 75, 76, 77, 88, 89, 93] → v' k = v k) (h62 : ∀ j, j ∈ [3, 4, 15, 48, 62] → v' 62 j = v 62 j) (h1 : v' 1 1 = 0) (h6 : v' 62 6 = 0) (hm : iv_meet v' 30 31 32 63) (hg : iv_rng v' 63) : INV v' := by
  obtain ⟨-, hk, hmi, ht, hl, hr⟩ := hI
  refine ⟨⟨hm, hg⟩, ?_, ?_, ⟨0, by omega, h1, h6, fun i hi => absurd hi (by omega)⟩, ?_, ?_⟩
  · unfold iv_meet iv_rng
    rw [h 0 (by decide), h 36 (by decide), h 37 (by decide), h 38 (by decide), h 65 (by decide)]
    exact hk
  · unfold iv_misc
    rw [h 0 (by decide), h62 62 (by decide), h62 3 (by decide), h62 4 (by decide)]
    exact hmi
  · unfold iv_law
    rw [h 3 (by decide), h 4 (by decide), h 5 (by decide), h 6 (by decide), h 7 (by decide), h62 15 (by decide), h 73 (by decide), h 74 (by decide), h 75 (by decide), h 76 (by decide), h 77 (by decide)]
    exact hl
  · unfold iv_tre
    rw [h 22 (by decide), h 23 (by decide), h 24 (by decide), h 25 (by decide), h62 48 (by decide), h 88 (by decide), h 89 (by decide), h 93 (by decide)]
    exact hr
section M78
variable {K : am_K} {I : am_I} {d : Nat} {v : am_V} {w : am_X} {Q : Option Value → am_H → Prop} {T : Nat → Int32} {n : Nat}
def bgT (v : am_V) (n : Nat) : am_V := am_up (am_up (am_up (am_up v 62 7 0) 62 8 (nI n)) 62 12 0) 62 14 0
set_option maxRecDepth 100000 in
set_option maxHeartbeats 4000000 in
theorem m_begins (h : Q none (am_sh, bgT v n, w)) : am_run K I am_m (d + 1) 172 [.ref 62, .int (nI n)] (am_sh, v, w) 0 0 Q := by
  refine en_X12_beginsText rfl ?_
  intro P hP
  ((repeat' first | refine hP _ ?_ | fail); try dsimp only)
  exact h
set_option maxRecDepth 100000 in
set_option maxHeartbeats 4000000 in
theorem lp_orders {P : am_C → Prop} (hP : ∀ c, am_step K I (am_run K I am_m (d + 4)) cd_X12_orders 0 0 Q P c → P c) (r0 : Nat → Int32) : ∀ (f k p : Nat) (s : List od_O) (u : am_V), n ≤ p + f → k ≤ 20 → rdR u T n p → u 62 29 = nI k → u 63 = obs s r0 → frO v u → (∀ e u', txR (ordS T n) T n f k p s = .error e → frO v u' → u' 62 9 = flt e → P (cd_X12_orders.drop 44, [some (.ref 62), some (.int (nI n)), some (.int 0)], [], (am_sh, u', w), 0, 0)) → (∀ k1 s1 u', txR (ordS T n) T n f k p s = .ok (k1, s1) → frO v u' → u' 62 29 = nI k1 → u' 63 = obs s1 r0 → P (cd_X12_orders.drop 44, [some (.ref 62), some (.int (nI n)), some (.int 1)], [], (am_sh, u', w), 0, 0)) → P (cd_X12_orders.drop 25, [some (.ref 62), some (.int (nI n)), some (.int 1)], [], (am_sh, u, w), 0, 0) := by
  have bad : ∀ u : am_V, P (cd_X12_orders.drop 44, [some (.ref 62), some (.int (nI n)), some (.int 0)], [], (am_sh, u, w), 0, 0) → P (cd_X12_orders.drop 41, [some (.ref 62), some (.int (nI n)), some (.int 1)], [], (am_sh, u, w), 0, 0) := by
    intro u h
    ((repeat' first | refine hP _ ?_ | fail); try dsimp only)
    exact ⟨fun _ => h, fun c => absurd rfl c⟩
  intro f
  induction f with
  | zero =>
    intro k p s u hf hk hr h29 h63 hfr hE hO
    have hn := hr.2.2.1
    have hp := hr.2.2.2
    unfold txR at hO
    rw [if_pos (show n ≤ p by omega)] at hO
    ((repeat' first | refine hP _ ?_ | fail); try dsimp only)
    refine ⟨fun c => absurd c (by decide), fun _ => ?_⟩
    ((repeat' first | refine hP _ ?_ | fail); try dsimp only)
    rw [hr.1.1, hr.1.2]
    refine ⟨fun _ => hO k s u rfl hfr h29 h63, fun c => absurd (nI_le (show n ≤ p by omega) (by omega)) c⟩
  | succ f ih =>
    intro k p s u hf hk hr h29 h63 hfr hE hO
    have hn := hr.2.2.1
    have hp := hr.2.2.2
    unfold txR at hE hO
    ((repeat' first | refine hP _ ?_ | fail); try dsimp only)
    refine ⟨fun c => absurd c (by decide), fun _ => ?_⟩
    ((repeat' first | refine hP _ ?_ | fail); try dsimp only)
    rw [hr.1.1, hr.1.2]
    refine ⟨fun c => ?_, fun c => ?_⟩
    · have c := (nI_leI (by omega) (by omega)).mp c
      rw [if_pos c] at hO
      exact hO k s u rfl hfr h29 h63
    · have c : ¬ n ≤ p := fun q => c (nI_le q (by omega))
      rw [if_neg c] at hE hO
      ((repeat' first | refine hP _ ?_ | fail); try dsimp only)
      refine m_takesR hr (by decide) (fun g => ?_) (fun g hlt => ?_)
      · rw [if_neg g] at hE
        ((repeat' first | refine hP _ ?_ | fail); try dsimp only)
        refine ⟨fun _ => ?_, fun c => absurd rfl c⟩
        exact bad _ (hE (1, p) _ rfl (hfr.up (by omega) _) (by rw [am_up_eq, if_pos ⟨rfl, rfl⟩]))
      · rw [if_pos g, txF_s] at hE hO
        have f1 : frO v (am_up u 62 7 (nI (p + 1))) := hfr.up (by omega) _
        have r1 : rdR (am_up u 62 7 (nI (p + 1))) T n (p + 1) := ⟨⟨by rw [am_up_eq, if_pos ⟨rfl, rfl⟩], by rw [am_up_eq, if_neg (by decide)]; exact hr.1.2⟩, by rw [am_up_ne _ _ _ (by decide)]; exact hr.2.1, hn, hlt⟩
        ((repeat' first | refine hP _ ?_ | fail); try dsimp only)
        refine ⟨fun c => absurd c (by decide), fun _ => ?_⟩
        ((repeat' first | refine hP _ ?_ | fail); try dsimp only)
        refine m_readsLine hk r1 (by rw [am_up_eq, if_neg (by decide)]; exact h29) (fun e u' he f' h9 => ?_) (fun p1 o u' he f' r' h29' h63' => ?_)
        · unfold ordS at hE
          rw [he] at hE
          ((repeat' first | refine hP _ ?_ | fail); try dsimp only)
          refine ⟨fun _ => ?_, fun c => absurd rfl c⟩
          exact bad _ (hE e _ rfl (f1.tr f') h9)
        · obtain ⟨hp1, hp2, ok⟩ := ordL_ok he
          have hk2 : k + 1 ≤ 20 := by
            rcases Nat.lt_or_ge k 20 with q | q
            · exact q
            · exfalso
              unfold ordL at he
              split at he
              · exact absurd he (by simp)
              · exact absurd he (by simp)
          unfold ordS at hE hO
          rw [he] at hE hO
          dsimp only at hE hO
          ((repeat' first | refine hP _ ?_ | fail); try dsimp only)
          refine ⟨fun c => absurd c (by decide), fun _ => ?_⟩
          ((iterate 4 refine hP _ ?_); try dsimp only)
          exact ih (k + 1) p1 (s ++ [o]) u' (by omega) hk2 r' h29' (by rw [h63', am_up_ne _ _ _ (by decide), h63, obs_app]) (f1.tr f') hE hO
end M78
theorem am_idx_2740 : am_idx 2740 = some (fun c => am_sfind c 0 whL) := rfl
theorem am_idx_2753 : am_idx 2753 = some (fun c => am_sfind c 0 wtL) := rfl
theorem am_idx_2698 : am_idx 2698 = some (fun c => am_sfind c 0 dgL) := rfl
theorem am_idx_2774 : am_idx 2774 = some (fun c => am_sfind c 0 [59]) := rfl
theorem by_rng (x : Int32) : 0 ≤ x &&& 255 ∧ x &&& 255 ≤ 255 := by
  obtain ⟨j, hj, e⟩ := pk_andE x (m := 255) 8 (by decide)
  rw [e]
  exact ⟨nI_pos' (by omega), nI_le (b := 255) (by omega) (by omega)⟩
set_option maxRecDepth 100000 in
set_option maxHeartbeats 4000000 in
theorem pr_orders {L : Nat} {xs : Nat → Int32} (a : Int32) : am_pair L xs 107 182 [.int a] := by
  intro d v w Q hI h
  obtain ⟨m, hm260, hm1, hm6, hby⟩ := hI.2.2.2.1
  refine en_X11_orders rfl ?_
  intro P hP
  ((repeat' first | refine hP _ ?_ | fail); try dsimp only)
  refine m_X11_outside (fun c => ?_) (fun c1 c2 => ?_)
  · ((repeat' first | refine hP _ ?_ | refine ⟨fun c1 => absurd c1 (by decide), fun _ => ?_⟩ | refine ⟨fun _ => ?_, fun c1 => absurd c1 (by decide)⟩ | refine ⟨am_vin rfl, ?_⟩ | refine ⟨fun c1 => ?_, fun c1 => ?_⟩ | refine ⟨Or.inr rfl, ?_⟩ | refine ⟨Or.inl rfl, ?_⟩ | fail); all_goals (try dsimp only at *))
    refine h (-1) v w (fun Q2 h2 => ?_)
    refine en_X12_orders rfl ?_
    intro P2 hP2
    ((repeat' first | refine hP2 _ ?_ | fail); try dsimp only)
    refine m_X12_in0 c ?_
    ((repeat' first | refine hP2 _ ?_ | refine ⟨fun c1 => absurd c1 (by decide), fun _ => ?_⟩ | refine ⟨fun _ => ?_, fun c1 => absurd c1 (by decide)⟩ | refine ⟨am_vin rfl, ?_⟩ | refine ⟨fun c1 => ?_, fun c1 => ?_⟩ | refine ⟨Or.inr rfl, ?_⟩ | refine ⟨Or.inl rfl, ?_⟩ | fail); all_goals (try dsimp only at *))
    exact h2 v w hI
  obtain ⟨n, hn1, hn, rfl⟩ := am_nat1 c1 c2 (n := 120) rfl
  ((repeat' first | refine hP _ ?_ | fail); try dsimp only)
  refine ⟨fun c => absurd rfl c, fun _ => ?_⟩
  ((repeat' first | refine hP _ ?_ | fail); try dsimp only)
  refine m_X8_has (fun q => ?_) (fun q => ?_)
  · rw [hm1] at q
    have hnm : n ≤ m := (nI_leI (by omega) (by omega)).mp q
    have hT : ∀ i, i < n → 0 ≤ v 2 i ∧ v 2 i ≤ 255 := fun i hi => by
      rw [hby i (by omega)]
      exact by_rng _
    -- the reference
    have hr : ∀ (v1 : am_V) (Q2 : Option Value → am_H → Prop), (∀ c, c ≠ 1 → c ≠ 18 → c ≠ 19 → c ≠ 20 → c ≠ 21 → c ≠ 31 → c ≠ 32 → v1 c = v c) → (∀ e v2, txF (ordS (v 2) n) (v 2) n n 0 0 [] = .error e → (∀ c, c ≠ 62 → c ≠ 63 → c ≠ 64 → v2 c = v1 c) → (∀ j, j ≠ 6 → j ≠ 7 → j ≠ 8 → j ≠ 9 → j ≠ 10 → j ≠ 12 → j ≠ 14 → j ≠ 29 → v2 62 j = v 62 j) → v2 62 6 = 0 → (∀ j, j < 14 → v2 63 j = v 63 j) → Q2 (some (.int (flt e))) (am_sh, v2, w)) → (∀ k s v2, txF (ordS (v 2) n) (v 2) n n 0 0 [] = .ok (k, s) → (∀ c, c ≠ 62 → c ≠ 63 → c ≠ 64 → v2 c = v1 c) → (∀ j, j ≠ 6 → j ≠ 7 → j ≠ 8 → j ≠ 9 → j ≠ 10 → j ≠ 12 → j ≠ 14 → j ≠ 29 → v2 62 j = v 62 j) → v2 62 6 = 0 → v2 63 = obs s (v 63) → Q2 (some (.int (nI k))) (am_sh, v2, w)) → am_run (am_kc L xs) am_idx am_m (d + 50) 182 [.ref 62, .int (nI n)] (am_sh, v1, w) 0 0 Q2 := by
      intro v1 Q2 hv1 hE hO
      have e62 : v1 62 = v 62 := hv1 62 (by decide) (by decide) (by decide) (by decide) (by decide) (by decide) (by decide)
      have e63 : v1 63 = v 63 := hv1 63 (by decide) (by decide) (by decide) (by decide) (by decide) (by decide) (by decide)
      have e66 : v1 66 = v 66 := hv1 66 (by decide) (by decide) (by decide) (by decide) (by decide) (by decide) (by decide)
      refine en_X12_orders rfl ?_
      intro P2 hP2
      ((repeat' first | refine hP2 _ ?_ | fail); try dsimp only)
      refine m_X12_in1 c1 c2 ?_
      ((repeat' first | refine hP2 _ ?_ | fail); try dsimp only)
      refine ⟨fun c => absurd c (by decide), fun _ => ?_⟩
      ((repeat' first | refine hP2 _ ?_ | fail); try dsimp only)
      rw [e62, hm6]
      refine ⟨fun _ => ?_, fun c => absurd q c⟩
      ((repeat' first | refine hP2 _ ?_ | fail); try dsimp only)
      refine m_begins ?_
      ((repeat' first | refine hP2 _ ?_ | fail); try dsimp only)
      refine m_X12_copies (by decide) ?_
      generalize hu0 : f_row (am_up (bgT v1 n) 62 29 0) 63 64 14 = u0
      have k0 : ∀ c, c ≠ 62 → c ≠ 64 → u0 c = v1 c := fun c h1 h2 => by
        rw [← hu0]
        funext y
        unfold f_row bgT
        rw [if_neg (fun q => h2 q.1), am_up_ne _ _ _ h1, am_up_ne _ _ _ h1, am_up_ne _ _ _ h1, am_up_ne _ _ _ h1, am_up_ne _ _ _ h1]
      have k64 : ∀ j, j < 14 → u0 64 j = v 63 j := fun j hj => by
        rw [← hu0, ← e63]
        unfold f_row bgT
        rw [if_pos ⟨rfl, hj⟩, am_up_ne _ _ _ (by decide), am_up_ne _ _ _ (by decide), am_up_ne _ _ _ (by decide), am_up_ne _ _ _ (by decide), am_up_ne _ _ _ (by decide)]
      have k62 : ∀ j, j ≠ 7 → j ≠ 8 → j ≠ 12 → j ≠ 14 → j ≠ 29 → u0 62 j = v 62 j := fun j h1 h2 h3 h4 h5 => by
        rw [← hu0, ← e62]
        simp [f_row, bgT, am_up_eq, h1, h2, h3, h4, h5]
      have k7 : u0 62 7 = nI 0 := by rw [← hu0]; simp [f_row, bgT, am_up_eq]; rfl
      have k8 : u0 62 8 = nI n := by rw [← hu0]; simp [f_row, bgT, am_up_eq]
      have k29 : u0 62 29 = nI 0 := by rw [← hu0]; simp [f_row, bgT, am_up_eq]; rfl
      clear hu0
      have r0 : rdR u0 (v 2) n 0 := ⟨⟨k7, k8⟩, fun i hi => by rw [k0 66 (by decide) (by decide), e66, hby i (by omega)], by omega, by omega⟩
      have u063 : u0 63 = v 63 := by rw [k0 63 (by decide) (by decide), e63]
      -- the ends
      have endE : ∀ (e : Nat × Nat) (u' : am_V), txF (ordS (v 2) n) (v 2) n n 0 0 [] = .error e → frO u0 u' → u' 62 9 = flt e → P2 (cd_X12_orders.drop 44, [some (.ref 62), some (.int (nI n)), some (.int 0)], [], (am_sh, u', w), 0, 0) := by
        intro e u' he hf h9
        ((repeat' first | refine hP2 _ ?_ | fail); try dsimp only)
        refine ⟨fun _ => ?_, fun c => absurd rfl c⟩
        ((repeat' first | refine hP2 _ ?_ | fail); try dsimp only)
        refine m_X12_copies (by decide) ?_
        ((repeat' first | refine hP2 _ ?_ | fail); try dsimp only)
        have hq := hE e (f_row (am_up u' 62 6 0) 64 63 14) he (fun c h1 h2 h3 => ?_) (fun j h1 h2 h3 h4 h5 h6 h7 h8 => ?_) ?_ (fun j hj => ?_)
        · refine am_qr ?_ rfl hq
          show am_up u' 62 6 0 62 9 = flt e
          rw [am_up_eq, if_neg (by decide), h9]
        · funext y
          unfold f_row
          rw [if_neg (fun q => h2 q.1), am_up_ne _ _ _ h1, hf.1 c h1 h2, k0 c h1 h3]
        · show am_up u' 62 6 0 62 j = _
          rw [am_up_eq, if_neg (fun q => h1 q.2), hf.2 j h2 h4 h5 h8, k62 j h2 h3 h6 h7 h8]
        · show am_up u' 62 6 0 62 6 = _
          rw [am_up_eq, if_pos ⟨rfl, rfl⟩]
        · unfold f_row
          rw [if_pos ⟨rfl, hj⟩, am_up_ne _ _ _ (by decide), hf.1 64 (by decide) (by decide), k64 j hj]
      have endO : ∀ (k : Nat) (s : List od_O) (u' : am_V), txF (ordS (v 2) n) (v 2) n n 0 0 [] = .ok (k, s) → frO u0 u' → u' 62 29 = nI k → u' 63 = obs s (v 63) → P2 (cd_X12_orders.drop 44, [some (.ref 62), some (.int (nI n)), some (.int 1)], [], (am_sh, u', w), 0, 0) := by
        intro k s u' he hf h29 h63
        ((repeat' first | refine hP2 _ ?_ | fail); try dsimp only)
        refine ⟨fun c => absurd c (by decide), fun _ => ?_⟩
        ((repeat' first | refine hP2 _ ?_ | fail); try dsimp only)
        rw [am_up_eq, if_neg (by decide), h29]
        refine hO k s _ he (fun c h1 h2 h3 => ?_) (fun j h1 h2 h3 h4 h5 h6 h7 h8 => ?_) ?_ ?_
        · rw [am_up_ne _ _ _ h1, hf.1 c h1 h2, k0 c h1 h3]
        · rw [am_up_eq, if_neg (fun q => h1 q.2), hf.2 j h2 h4 h5 h8, k62 j h2 h3 h6 h7 h8]
        · rw [am_up_eq, if_pos ⟨rfl, rfl⟩]
        · rw [am_up_ne _ _ _ (by decide), h63]
      obtain ⟨f, rfl⟩ : ∃ f, n = f + 1 := ⟨n - 1, by omega⟩
      ((repeat' first | refine hP2 _ ?_ | fail); try dsimp only)
      refine m_readsLine (k := 0) (by omega) r0 k29 (fun e u' he f' h9 => ?_) (fun p1 o u' he f' r' h29' h63' => ?_)
      · ((iterate 1 refine hP2 _ ?_); try dsimp only)
        have het : txF (ordS (v 2) (f + 1)) (v 2) (f + 1) (f + 1) 0 0 [] = .error e := by
          rw [txF_s]
          unfold ordS
          rw [he]
        ((repeat' first | refine hP2 _ ?_ | fail); try dsimp only)
        exact ⟨fun _ => endE e u' het f' h9, fun c => absurd rfl c⟩
      · obtain ⟨hp1, hp2, ok⟩ := ordL_ok he
        have het : txF (ordS (v 2) (f + 1)) (v 2) (f + 1) (f + 1) 0 0 [] = txR (ordS (v 2) (f + 1)) (v 2) (f + 1) f 1 p1 [o] := by
          rw [txF_s]
          unfold ordS
          rw [he]
          rfl
        rw [het] at endE endO
        ((iterate 1 refine hP2 _ ?_); try dsimp only)
        exact lp_orders hP2 (v 63) f 1 p1 [o] u' (by omega) (by omega) r' h29' (by rw [h63', u063]; rfl) f' endE endO
    -- the class
    ((repeat' first | refine hP _ ?_ | fail); try dsimp only)
    refine ⟨fun _ => ?_, fun c => absurd c (by decide)⟩
    ((repeat' first | refine hP _ ?_ | fail); try dsimp only)
    have f0 : od_fr v (am_up (am_up (am_up v 18 3 0) 18 1 (nI n)) 18 2 0) := fun c h1 _ _ _ => by rw [am_up_ne _ _ _ h1, am_up_ne _ _ _ h1, am_up_ne _ _ _ h1]
    refine m_readText_18 (T := v 2) (n := n) (L := ordS (v 2) n) (S := od_S v (v 2) n) (E := od_fr v) (s0 := []) (by omega) am_idx_2774 (fun k p s u hs => hs.1) (fun k p s u x hs hp => ?_) (fun k p s u hs => hs.2.1) (fun u x hu c h1 h2 h3 h4 => by rw [am_up_ne _ _ _ h1]; exact hu c h1 h2 h3 h4) (fun k p s u Q' hs _ hE hO => m_ordLine am_idx_2740 am_idx_2753 am_idx_2698 hs hE hO) ?_ (fun e v' he hf => ?_) (fun k p s v' he hs => ?_)
    · obtain ⟨a1, a2, a3, a4⟩ := hs
      refine ⟨take_rd (by unfold rdr; decide) a1 x hp, fun c h1 h2 h3 h4 => by rw [am_up_ne _ _ _ h1, am_up_ne _ _ _ h1]; exact a2 c h1 h2 h3 h4, a3, ?_⟩
      unfold od_at
      rw [am_up_ne _ _ _ (show (19 : Nat) ≠ 18 by decide), am_up_ne _ _ _ (show (19 : Nat) ≠ 18 by decide), am_up_ne _ _ _ (show (20 : Nat) ≠ 18 by decide), am_up_ne _ _ _ (show (20 : Nat) ≠ 18 by decide), am_up_ne _ _ _ (show (21 : Nat) ≠ 18 by decide), am_up_ne _ _ _ (show (21 : Nat) ≠ 18 by decide)]
      exact a4
    · refine ⟨⟨⟨by simp [am_up_eq], by simp [am_up_eq]; rfl⟩, fun i _ => by rw [f0 2 (by decide) (by decide) (by decide) (by decide)], ⟨by omega, by omega⟩, hT, m, by rw [f0 1 (by decide) (by decide) (by decide) (by decide)]; exact hm1, hnm, hm260⟩, f0, ⟨rfl, by omega⟩, fun i o hi => absurd hi (by simp)⟩
    · obtain ⟨b1, b2, b3⟩ := txF_er (L := ordS (v 2) n) (T := v 2) (n := n) (fun k p s e hp hh => by
        unfold ordS at hh
        cases ho : ordL (v 2) n k p with
        | error e' =>
          rw [ho] at hh
          have e2 : e' = e := by simpa using hh
          subst e2
          exact ordL_er hp ho
        | ok y =>
          rw [ho] at hh
          exact absurd hh (by simp)) (fun k p s p1 s1 hp hh => by
        unfold ordS at hh
        cases ho : ordL (v 2) n k p with
        | error e' =>
          rw [ho] at hh
          exact absurd hh (by simp)
        | ok y =>
          obtain ⟨q1, o⟩ := y
          rw [ho] at hh
          have e2 : q1 = p1 ∧ s ++ [o] = s1 := by simpa using hh
          have := (ordL_ok ho).2.1
          omega) n 0 0 [] e (by omega) he
      ((repeat' first | refine hP _ ?_ | fail); try dsimp only)
      refine m_X8_clear ?_
      ((repeat' first | refine hP _ ?_ | fail); try dsimp only)
      refine ⟨fun _ => ?_, fun c => absurd (flt_neg b1 b2 (by omega)) c⟩
      ((repeat' first | refine hP _ ?_ | fail); try dsimp only)
      refine h _ _ w (fun Q2 h2 => ?_)
      refine hr _ Q2 (fun c g1 g2 g3 g4 g5 g6 g7 => by rw [am_up_ne _ _ _ g1]; exact hf c g2 g3 g4 g5) (fun e2 v2 he2 x1 x2 x3 x4 => ?_) (fun k s v2 he2 => absurd (he.symm.trans he2) (by simp))
      have ee : e = e2 := by simpa using he.symm.trans he2
      subst ee
      have y : ∀ c, c ≠ 1 → c ≠ 18 → c ≠ 19 → c ≠ 20 → c ≠ 21 → c ≠ 62 → c ≠ 63 → c ≠ 64 → v2 c = v c := fun c h1 h2 h3 h4 h5 h6 h7 h8 => by rw [x1 c h6 h7 h8, am_up_ne _ _ _ h1, hf c h2 h3 h4 h5]
      refine h2 v2 w (hI.mvc (fun k hk => ?_) (fun j hj => ?_) ?_ x3 ?_ (rg_congr x4 hI.1.2))
      · have t : k ≠ 1 ∧ k ≠ 18 ∧ k ≠ 19 ∧ k ≠ 20 ∧ k ≠ 21 ∧ k ≠ 62 ∧ k ≠ 63 ∧ k ≠ 64 := by revert k; decide
        exact y k t.1 t.2.1 t.2.2.1 t.2.2.2.1 t.2.2.2.2.1 t.2.2.2.2.2.1 t.2.2.2.2.2.2.1 t.2.2.2.2.2.2.2
      · have t : j ≠ 6 ∧ j ≠ 7 ∧ j ≠ 8 ∧ j ≠ 9 ∧ j ≠ 10 ∧ j ≠ 12 ∧ j ≠ 14 ∧ j ≠ 29 := by revert j; decide
        exact x2 j t.1 t.2.1 t.2.2.1 t.2.2.2.1 t.2.2.2.2.1 t.2.2.2.2.2.1 t.2.2.2.2.2.2.1 t.2.2.2.2.2.2.2
      · rw [x1 1 (by decide) (by decide) (by decide), am_up_eq, if_pos ⟨rfl, rfl⟩]
      · have := mt_congr (r' := v2 63) x4 hI.1.1
        unfold mt at this
        rw [← y 30 (by decide) (by decide) (by decide) (by decide) (by decide) (by decide) (by decide) (by decide), ← y 31 (by decide) (by decide) (by decide) (by decide) (by decide) (by decide) (by decide) (by decide), ← y 32 (by decide) (by decide) (by decide) (by decide) (by decide) (by decide) (by decide) (by decide)] at this
        exact this
    · have hk1 := txF_k _ _ _ _ _ _ he
      obtain ⟨s1, s2, ⟨s3, s4⟩, s5⟩ := hs
      ((repeat' first | refine hP _ ?_ | fail); try dsimp only)
      refine m_X8_clear ?_
      ((repeat' first | refine hP _ ?_ | fail); try dsimp only)
      refine ⟨fun c => absurd c (nI_nle hk1 (by omega)), fun _ => ?_⟩
      ((repeat' first | refine hP _ ?_ | fail); try dsimp only)
      rw [← s3]
      refine m_obey (s := s) (r := v 63) (by omega) ?_ ?_ (fun v3 f3 m3 => ?_)
      · unfold od_at
        rw [am_up_ne _ _ _ (show (19 : Nat) ≠ 1 by decide), am_up_ne _ _ _ (show (20 : Nat) ≠ 1 by decide), am_up_ne _ _ _ (show (21 : Nat) ≠ 1 by decide)]
        exact s5
      · unfold mt
        rw [am_up_ne _ _ _ (show (30 : Nat) ≠ 1 by decide), am_up_ne _ _ _ (show (31 : Nat) ≠ 1 by decide), am_up_ne _ _ _ (show (32 : Nat) ≠ 1 by decide), s2 30 (by decide) (by decide) (by decide) (by decide), s2 31 (by decide) (by decide) (by decide) (by decide), s2 32 (by decide) (by decide) (by decide) (by decide)]
        exact hI.1.1
      ((repeat' first | refine hP _ ?_ | fail); try dsimp only)
      refine h _ _ w (fun Q2 h2 => ?_)
      have y3 : ∀ c, c ≠ 1 → c ≠ 18 → c ≠ 19 → c ≠ 20 → c ≠ 21 → c ≠ 31 → c ≠ 32 → v3 c = v c := fun c h1 h2 h3 h4 h5 h6 h7 => by rw [f3 c h6 h7, am_up_ne _ _ _ h1, s2 c h2 h3 h4 h5]
      refine hr v3 Q2 y3 (fun e2 v2 he2 => absurd (he.symm.trans he2) (by simp)) (fun k2 s2' v2 he2 x1 x2 x3 x4 => ?_)
      have ee : k = k2 ∧ s = s2' := by simpa using he.symm.trans he2
      obtain ⟨rfl, rfl⟩ := ee
      rw [s3] at h2
      have y : ∀ c, c ≠ 1 → c ≠ 18 → c ≠ 19 → c ≠ 20 → c ≠ 21 → c ≠ 31 → c ≠ 32 → c ≠ 62 → c ≠ 63 → c ≠ 64 → v2 c = v c := fun c h1 h2 h3 h4 h5 h6 h7 h8 h9 h10 => by rw [x1 c h8 h9 h10, y3 c h1 h2 h3 h4 h5 h6 h7]
      refine h2 v2 w (hI.mvc (fun k hk => ?_) (fun j hj => ?_) ?_ x3 ?_ ?_)
      · have t : k ≠ 1 ∧ k ≠ 18 ∧ k ≠ 19 ∧ k ≠ 20 ∧ k ≠ 21 ∧ k ≠ 31 ∧ k ≠ 32 ∧ k ≠ 62 ∧ k ≠ 63 ∧ k ≠ 64 := by revert k; decide
        exact y k t.1 t.2.1 t.2.2.1 t.2.2.2.1 t.2.2.2.2.1 t.2.2.2.2.2.1 t.2.2.2.2.2.2.1 t.2.2.2.2.2.2.2.1 t.2.2.2.2.2.2.2.2.1 t.2.2.2.2.2.2.2.2.2
      · have t : j ≠ 6 ∧ j ≠ 7 ∧ j ≠ 8 ∧ j ≠ 9 ∧ j ≠ 10 ∧ j ≠ 12 ∧ j ≠ 14 ∧ j ≠ 29 := by revert j; decide
        exact x2 j t.1 t.2.1 t.2.2.1 t.2.2.2.1 t.2.2.2.2.1 t.2.2.2.2.2.1 t.2.2.2.2.2.2.1 t.2.2.2.2.2.2.2
      · rw [x1 1 (by decide) (by decide) (by decide), f3 1 (by decide) (by decide), am_up_eq, if_pos ⟨rfl, rfl⟩]
      · unfold mt at m3
        rw [← x1 30 (by decide) (by decide) (by decide), ← x1 31 (by decide) (by decide) (by decide), ← x1 32 (by decide) (by decide) (by decide), ← x4] at m3
        exact m3
      · show rg (v2 63)
        rw [x4]
        have : ∀ (q : List od_O) (r : Nat → Int32), (∀ o, o ∈ q → od_ok o) → rg r → rg (obs q r) := by
          intro q
          induction q with
          | nil =>
            intro r _ hr
            exact hr
          | cons o q ih =>
            intro r ho hr
            exact ih _ (fun o' h' => ho o' (List.mem_cons_of_mem _ h')) (rg_obO (ho o List.mem_cons_self) hr)
        refine this s (v 63) (fun o ho => ?_) hI.1.2
        obtain ⟨i, hi⟩ := List.getElem?_of_mem ho
        exact (s5 i o hi).1
  · rw [hm1] at q
    ((repeat' first | refine hP _ ?_ | refine ⟨fun c1 => absurd c1 (by decide), fun _ => ?_⟩ | refine ⟨fun _ => ?_, fun c1 => absurd c1 (by decide)⟩ | refine ⟨am_vin rfl, ?_⟩ | refine ⟨fun c1 => ?_, fun c1 => ?_⟩ | refine ⟨Or.inr rfl, ?_⟩ | refine ⟨Or.inl rfl, ?_⟩ | fail); all_goals (try dsimp only at *))
    refine h (-1) v w (fun Q2 h2 => ?_)
    refine en_X12_orders rfl ?_
    intro P2 hP2
    ((repeat' first | refine hP2 _ ?_ | fail); try dsimp only)
    refine m_X12_in1 c1 c2 ?_
    ((repeat' first | refine hP2 _ ?_ | fail); try dsimp only)
    refine ⟨fun c => absurd c (by decide), fun _ => ?_⟩
    ((repeat' first | refine hP2 _ ?_ | fail); try dsimp only)
    rw [hm6]
    refine ⟨fun c => absurd c (Int32.not_le.mpr q), fun _ => ?_⟩
    ((repeat' first | refine hP2 _ ?_ | fail); try dsimp only)
    exact h2 v w hI
