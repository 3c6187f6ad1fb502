/-! ===== reading texts: numbers, lines ===== -/
section M74
variable {K : am_K} {I : am_I} {d : Nat} {v : am_V} {w : am_X} {Q : Option Value → am_H → Prop} {R : Nat} {T : Nat → Int32} {n p : Nat}
theorem nv_step {x j : Nat} : nI x * 10 + nI (48 + j) - 48 = nI (x * 10 + j) := by
  rw [show (10 : Int32) = nI 10 from rfl, show (48 : Int32) = nI 48 from rfl, pk_mul, nI_add, pk_sub (by omega)]
  congr 1
  omega
set_option maxRecDepth 100000 in
set_option maxHeartbeats 4000000 in
theorem m_readNum_10 (hr : rd v 10 T n p) (hk : I 2698 = some (fun c => am_sfind c 0 dgL)) {M : Nat} (hM : M ≤ 5) (hE : ∀ (e : Nat × Nat) (v' : am_V), numF T n M p = .error e → frD 10 v v' → v' 10 2 = flt e → Q (some (.int 0)) (am_sh, v', w)) (hO : ∀ (p1 x : Nat) (v' : am_V), numF T n M p = .ok (p1, x) → frD 10 v v' → v' 10 3 = nI p1 → p1 ≤ n → v' 10 4 = nI x → Q (some (.int 1)) (am_sh, v', w)) : am_run K I am_m (d + 3) 79 [.ref 10, .int (nI M)] (am_sh, v, w) 0 0 Q := by
  have hR' : rdr 10 := by unfold rdr; decide
  have hn := hr.2.2.1.1
  have hp := hr.2.2.1.2
  have hnd := nd_le T n M p hp
  refine en_X7_readNumber rfl ?_
  intro P hP
  have key : ∀ (m j x : Nat) (u : am_V), j + m = M → frD 10 v u → u 10 3 = nI (p + j) → p + j ≤ n → (∀ u' : am_V, frD 10 v u' → u' 10 3 = nI (p + j + nd T n m (p + j)) → P (cd_X7_readNumber.drop 22, [some (.ref 10), some (.int (nI M)), some (.int (nI (nv T n m (p + j) x))), some (.int (nI (j + nd T n m (p + j))))], [], (am_sh, u', w), 0, 0)) → P (cd_X7_readNumber.drop 4, [some (.ref 10), some (.int (nI M)), some (.int (nI x)), some (.int (nI j))], [], (am_sh, u, w), 0, 0) := by
    intro m
    induction m with
    | zero =>
      intro j x u hj hf h3 hle h
      ((repeat' first | refine hP _ ?_ | fail); try dsimp only)
      refine ⟨fun _ => ?_, fun c => absurd (nI_le (a := M) (b := j) (by omega) (by omega)) c⟩
      exact h u hf h3
    | succ m ih =>
      intro j x u hj hf h3 hle h
      have ru := hr.of hR' hf h3 hle
      ((repeat' first | refine hP _ ?_ | fail); try dsimp only)
      refine ⟨fun c => absurd c (nI_ge (by omega) (by omega)), fun _ => ?_⟩
      ((repeat' first | refine hP _ ?_ | fail); try dsimp only)
      refine m_takesC hR' ru hk (by decide) dg_m1 (fun ho => ?_) (fun ho hlt => ?_)
      · ((repeat' first | refine hP _ ?_ | fail); try dsimp only)
        refine ⟨fun _ => ?_, fun c => absurd rfl c⟩
        have e := h u hf
        unfold nd nv at e
        rw [if_neg (by rw [ho]; decide), if_neg (by rw [ho]; decide)] at e
        exact e h3
      · obtain ⟨q, hq, e1, e2⟩ := dg_nat ho
        ((repeat' first | refine hP _ ?_ | fail); try dsimp only)
        refine ⟨fun c => absurd c (by decide), fun _ => ?_⟩
        ((iterate 11 refine hP _ ?_); try dsimp only)
        rw [take_4, e1, nv_step, nI_1]
        refine ih (j + 1) (x * 10 + q) _ (by omega) (hf.tr (take_fr _ u _ _)) (by rw [take_3, Nat.add_assoc]) (by omega) (fun u' f' a' => ?_)
        have e := h u' f'
        unfold nd nv at e
        rw [if_pos ho, if_pos ho, e2] at e
        rw [show p + (j + 1) = p + j + 1 by omega] at a' ⊢
        rw [show j + 1 + nd T n m (p + j + 1) = j + (nd T n m (p + j + 1) + 1) by omega]
        refine e ?_
        rw [a']
        congr 1
        omega
  ((iterate 4 refine hP _ ?_); try dsimp only)
  refine key M 0 0 v (by omega) frD.rf hr.1.2 (by omega) (fun u' f' a' => ?_)
  rw [Nat.add_zero] at a' ⊢
  rw [Nat.zero_add]
  have ru := hr.of hR' f' a' hnd
  unfold numF at hE hO
  ((repeat' first | refine hP _ ?_ | fail); try dsimp only)
  by_cases h0 : nd T n M p = 0
  · rw [if_pos h0] at hE
    rw [h0, Nat.add_zero] at a'
    rw [h0]
    refine ⟨fun c => absurd rfl c, fun _ => ?_⟩
    ((repeat' first | refine hP _ ?_ | fail); try dsimp only)
    refine m_cannot hR' a' ?_
    ((repeat' first | refine hP _ ?_ | fail); try dsimp only)
    exact ⟨Or.inl rfl, hE (1, p) _ rfl (f'.up (by omega) _) (by rw [am_up_eq, if_pos ⟨rfl, rfl⟩])⟩
  · rw [if_neg h0] at hE hO
    have hM2 : nd T n M p < 2 ^ 31 := by omega
    refine ⟨fun _ => ?_, fun c => absurd c (nI_ne0 (by omega) hM2)⟩
    ((repeat' first | refine hP _ ?_ | fail); try dsimp only)
    refine m_isOn hR' ru hk (by decide) dg_m1 ?_
    ((repeat' first | refine hP _ ?_ | fail); try dsimp only)
    cases ho : onl dgL (cc T n (p + nd T n M p)) with
    | true =>
      rw [ho, if_pos rfl] at hE
      refine ⟨fun c => absurd c (by decide), fun _ => ?_⟩
      ((repeat' first | refine hP _ ?_ | fail); try dsimp only)
      rw [a']
      refine m_fails hR' ?_
      ((repeat' first | refine hP _ ?_ | fail); try dsimp only)
      exact ⟨Or.inl rfl, hE (2, p + nd T n M p) _ rfl (f'.up (by omega) _) (by rw [am_up_eq, if_pos ⟨rfl, rfl⟩]; rfl)⟩
    | false =>
      rw [ho, if_neg (by decide)] at hO
      refine ⟨fun _ => ?_, fun c => absurd rfl c⟩
      ((repeat' first | refine hP _ ?_ | fail); try dsimp only)
      exact ⟨Or.inr rfl, hO _ _ _ rfl (f'.up (by omega) _) (by rw [am_up_eq, if_neg (fun q => absurd q.2 (by decide)), a']) hnd (by rw [am_up_eq, if_pos ⟨rfl, rfl⟩])⟩
set_option maxRecDepth 100000 in
set_option maxHeartbeats 4000000 in
theorem m_readNum_18 (hr : rd v 18 T n p) (hk : I 2698 = some (fun c => am_sfind c 0 dgL)) {M : Nat} (hM : M ≤ 5) (hE : ∀ (e : Nat × Nat) (v' : am_V), numF T n M p = .error e → frD 18 v v' → v' 18 2 = flt e → Q (some (.int 0)) (am_sh, v', w)) (hO : ∀ (p1 x : Nat) (v' : am_V), numF T n M p = .ok (p1, x) → frD 18 v v' → v' 18 3 = nI p1 → p1 ≤ n → v' 18 4 = nI x → Q (some (.int 1)) (am_sh, v', w)) : am_run K I am_m (d + 3) 79 [.ref 18, .int (nI M)] (am_sh, v, w) 0 0 Q := by
  have hR' : rdr 18 := by unfold rdr; decide
  have hn := hr.2.2.1.1
  have hp := hr.2.2.1.2
  have hnd := nd_le T n M p hp
  refine en_X7_readNumber rfl ?_
  intro P hP
  have key : ∀ (m j x : Nat) (u : am_V), j + m = M → frD 18 v u → u 18 3 = nI (p + j) → p + j ≤ n → (∀ u' : am_V, frD 18 v u' → u' 18 3 = nI (p + j + nd T n m (p + j)) → P (cd_X7_readNumber.drop 22, [some (.ref 18), some (.int (nI M)), some (.int (nI (nv T n m (p + j) x))), some (.int (nI (j + nd T n m (p + j))))], [], (am_sh, u', w), 0, 0)) → P (cd_X7_readNumber.drop 4, [some (.ref 18), some (.int (nI M)), some (.int (nI x)), some (.int (nI j))], [], (am_sh, u, w), 0, 0) := by
    intro m
    induction m with
    | zero =>
      intro j x u hj hf h3 hle h
      ((repeat' first | refine hP _ ?_ | fail); try dsimp only)
      refine ⟨fun _ => ?_, fun c => absurd (nI_le (a := M) (b := j) (by omega) (by omega)) c⟩
      exact h u hf h3
    | succ m ih =>
      intro j x u hj hf h3 hle h
      have ru := hr.of hR' hf h3 hle
      ((repeat' first | refine hP _ ?_ | fail); try dsimp only)
      refine ⟨fun c => absurd c (nI_ge (by omega) (by omega)), fun _ => ?_⟩
      ((repeat' first | refine hP _ ?_ | fail); try dsimp only)
      refine m_takesC hR' ru hk (by decide) dg_m1 (fun ho => ?_) (fun ho hlt => ?_)
      · ((repeat' first | refine hP _ ?_ | fail); try dsimp only)
        refine ⟨fun _ => ?_, fun c => absurd rfl c⟩
        have e := h u hf
        unfold nd nv at e
        rw [if_neg (by rw [ho]; decide), if_neg (by rw [ho]; decide)] at e
        exact e h3
      · obtain ⟨q, hq, e1, e2⟩ := dg_nat ho
        ((repeat' first | refine hP _ ?_ | fail); try dsimp only)
        refine ⟨fun c => absurd c (by decide), fun _ => ?_⟩
        ((iterate 11 refine hP _ ?_); try dsimp only)
        rw [take_4, e1, nv_step, nI_1]
        refine ih (j + 1) (x * 10 + q) _ (by omega) (hf.tr (take_fr _ u _ _)) (by rw [take_3, Nat.add_assoc]) (by omega) (fun u' f' a' => ?_)
        have e := h u' f'
        unfold nd nv at e
        rw [if_pos ho, if_pos ho, e2] at e
        rw [show p + (j + 1) = p + j + 1 by omega] at a' ⊢
        rw [show j + 1 + nd T n m (p + j + 1) = j + (nd T n m (p + j + 1) + 1) by omega]
        refine e ?_
        rw [a']
        congr 1
        omega
  ((iterate 4 refine hP _ ?_); try dsimp only)
  refine key M 0 0 v (by omega) frD.rf hr.1.2 (by omega) (fun u' f' a' => ?_)
  rw [Nat.add_zero] at a' ⊢
  rw [Nat.zero_add]
  have ru := hr.of hR' f' a' hnd
  unfold numF at hE hO
  ((repeat' first | refine hP _ ?_ | fail); try dsimp only)
  by_cases h0 : nd T n M p = 0
  · rw [if_pos h0] at hE
    rw [h0, Nat.add_zero] at a'
    rw [h0]
    refine ⟨fun c => absurd rfl c, fun _ => ?_⟩
    ((repeat' first | refine hP _ ?_ | fail); try dsimp only)
    refine m_cannot hR' a' ?_
    ((repeat' first | refine hP _ ?_ | fail); try dsimp only)
    exact ⟨Or.inl rfl, hE (1, p) _ rfl (f'.up (by omega) _) (by rw [am_up_eq, if_pos ⟨rfl, rfl⟩])⟩
  · rw [if_neg h0] at hE hO
    have hM2 : nd T n M p < 2 ^ 31 := by omega
    refine ⟨fun _ => ?_, fun c => absurd c (nI_ne0 (by omega) hM2)⟩
    ((repeat' first | refine hP _ ?_ | fail); try dsimp only)
    refine m_isOn hR' ru hk (by decide) dg_m1 ?_
    ((repeat' first | refine hP _ ?_ | fail); try dsimp only)
    cases ho : onl dgL (cc T n (p + nd T n M p)) with
    | true =>
      rw [ho, if_pos rfl] at hE
      refine ⟨fun c => absurd c (by decide), fun _ => ?_⟩
      ((repeat' first | refine hP _ ?_ | fail); try dsimp only)
      rw [a']
      refine m_fails hR' ?_
      ((repeat' first | refine hP _ ?_ | fail); try dsimp only)
      exact ⟨Or.inl rfl, hE (2, p + nd T n M p) _ rfl (f'.up (by omega) _) (by rw [am_up_eq, if_pos ⟨rfl, rfl⟩]; rfl)⟩
    | false =>
      rw [ho, if_neg (by decide)] at hO
      refine ⟨fun _ => ?_, fun c => absurd rfl c⟩
      ((repeat' first | refine hP _ ?_ | fail); try dsimp only)
      exact ⟨Or.inr rfl, hO _ _ _ rfl (f'.up (by omega) _) (by rw [am_up_eq, if_neg (fun q => absurd q.2 (by decide)), a']) hnd (by rw [am_up_eq, if_pos ⟨rfl, rfl⟩])⟩
set_option maxRecDepth 100000 in
set_option maxHeartbeats 4000000 in
theorem m_readNum_26 (hr : rd v 26 T n p) (hk : I 2698 = some (fun c => am_sfind c 0 dgL)) {M : Nat} (hM : M ≤ 5) (hE : ∀ (e : Nat × Nat) (v' : am_V), numF T n M p = .error e → frD 26 v v' → v' 26 2 = flt e → Q (some (.int 0)) (am_sh, v', w)) (hO : ∀ (p1 x : Nat) (v' : am_V), numF T n M p = .ok (p1, x) → frD 26 v v' → v' 26 3 = nI p1 → p1 ≤ n → v' 26 4 = nI x → Q (some (.int 1)) (am_sh, v', w)) : am_run K I am_m (d + 3) 79 [.ref 26, .int (nI M)] (am_sh, v, w) 0 0 Q := by
  have hR' : rdr 26 := by unfold rdr; decide
  have hn := hr.2.2.1.1
  have hp := hr.2.2.1.2
  have hnd := nd_le T n M p hp
  refine en_X7_readNumber rfl ?_
  intro P hP
  have key : ∀ (m j x : Nat) (u : am_V), j + m = M → frD 26 v u → u 26 3 = nI (p + j) → p + j ≤ n → (∀ u' : am_V, frD 26 v u' → u' 26 3 = nI (p + j + nd T n m (p + j)) → P (cd_X7_readNumber.drop 22, [some (.ref 26), some (.int (nI M)), some (.int (nI (nv T n m (p + j) x))), some (.int (nI (j + nd T n m (p + j))))], [], (am_sh, u', w), 0, 0)) → P (cd_X7_readNumber.drop 4, [some (.ref 26), some (.int (nI M)), some (.int (nI x)), some (.int (nI j))], [], (am_sh, u, w), 0, 0) := by
    intro m
    induction m with
    | zero =>
      intro j x u hj hf h3 hle h
      ((repeat' first | refine hP _ ?_ | fail); try dsimp only)
      refine ⟨fun _ => ?_, fun c => absurd (nI_le (a := M) (b := j) (by omega) (by omega)) c⟩
      exact h u hf h3
    | succ m ih =>
      intro j x u hj hf h3 hle h
      have ru := hr.of hR' hf h3 hle
      ((repeat' first | refine hP _ ?_ | fail); try dsimp only)
      refine ⟨fun c => absurd c (nI_ge (by omega) (by omega)), fun _ => ?_⟩
      ((repeat' first | refine hP _ ?_ | fail); try dsimp only)
      refine m_takesC hR' ru hk (by decide) dg_m1 (fun ho => ?_) (fun ho hlt => ?_)
      · ((repeat' first | refine hP _ ?_ | fail); try dsimp only)
        refine ⟨fun _ => ?_, fun c => absurd rfl c⟩
        have e := h u hf
        unfold nd nv at e
        rw [if_neg (by rw [ho]; decide), if_neg (by rw [ho]; decide)] at e
        exact e h3
      · obtain ⟨q, hq, e1, e2⟩ := dg_nat ho
        ((repeat' first | refine hP _ ?_ | fail); try dsimp only)
        refine ⟨fun c => absurd c (by decide), fun _ => ?_⟩
        ((iterate 11 refine hP _ ?_); try dsimp only)
        rw [take_4, e1, nv_step, nI_1]
        refine ih (j + 1) (x * 10 + q) _ (by omega) (hf.tr (take_fr _ u _ _)) (by rw [take_3, Nat.add_assoc]) (by omega) (fun u' f' a' => ?_)
        have e := h u' f'
        unfold nd nv at e
        rw [if_pos ho, if_pos ho, e2] at e
        rw [show p + (j + 1) = p + j + 1 by omega] at a' ⊢
        rw [show j + 1 + nd T n m (p + j + 1) = j + (nd T n m (p + j + 1) + 1) by omega]
        refine e ?_
        rw [a']
        congr 1
        omega
  ((iterate 4 refine hP _ ?_); try dsimp only)
  refine key M 0 0 v (by omega) frD.rf hr.1.2 (by omega) (fun u' f' a' => ?_)
  rw [Nat.add_zero] at a' ⊢
  rw [Nat.zero_add]
  have ru := hr.of hR' f' a' hnd
  unfold numF at hE hO
  ((repeat' first | refine hP _ ?_ | fail); try dsimp only)
  by_cases h0 : nd T n M p = 0
  · rw [if_pos h0] at hE
    rw [h0, Nat.add_zero] at a'
    rw [h0]
    refine ⟨fun c => absurd rfl c, fun _ => ?_⟩
    ((repeat' first | refine hP _ ?_ | fail); try dsimp only)
    refine m_cannot hR' a' ?_
    ((repeat' first | refine hP _ ?_ | fail); try dsimp only)
    exact ⟨Or.inl rfl, hE (1, p) _ rfl (f'.up (by omega) _) (by rw [am_up_eq, if_pos ⟨rfl, rfl⟩])⟩
  · rw [if_neg h0] at hE hO
    have hM2 : nd T n M p < 2 ^ 31 := by omega
    refine ⟨fun _ => ?_, fun c => absurd c (nI_ne0 (by omega) hM2)⟩
    ((repeat' first | refine hP _ ?_ | fail); try dsimp only)
    refine m_isOn hR' ru hk (by decide) dg_m1 ?_
    ((repeat' first | refine hP _ ?_ | fail); try dsimp only)
    cases ho : onl dgL (cc T n (p + nd T n M p)) with
    | true =>
      rw [ho, if_pos rfl] at hE
      refine ⟨fun c => absurd c (by decide), fun _ => ?_⟩
      ((repeat' first | refine hP _ ?_ | fail); try dsimp only)
      rw [a']
      refine m_fails hR' ?_
      ((repeat' first | refine hP _ ?_ | fail); try dsimp only)
      exact ⟨Or.inl rfl, hE (2, p + nd T n M p) _ rfl (f'.up (by omega) _) (by rw [am_up_eq, if_pos ⟨rfl, rfl⟩]; rfl)⟩
    | false =>
      rw [ho, if_neg (by decide)] at hO
      refine ⟨fun _ => ?_, fun c => absurd rfl c⟩
      ((repeat' first | refine hP _ ?_ | fail); try dsimp only)
      exact ⟨Or.inr rfl, hO _ _ _ rfl (f'.up (by omega) _) (by rw [am_up_eq, if_neg (fun q => absurd q.2 (by decide)), a']) hnd (by rw [am_up_eq, if_pos ⟨rfl, rfl⟩])⟩
theorem m_readNum (hR : rdr R) (hr : rd v R T n p) (hk : I 2698 = some (fun c => am_sfind c 0 dgL)) {M : Nat} (hM : M ≤ 5) (hE : ∀ (e : Nat × Nat) (v' : am_V), numF T n M p = .error e → frD R v v' → v' R 2 = flt e → Q (some (.int 0)) (am_sh, v', w)) (hO : ∀ (p1 x : Nat) (v' : am_V), numF T n M p = .ok (p1, x) → frD R v v' → v' R 3 = nI p1 → p1 ≤ n → v' R 4 = nI x → Q (some (.int 1)) (am_sh, v', w)) : am_run K I am_m (d + 3) 79 [.ref R, .int (nI M)] (am_sh, v, w) 0 0 Q := by
  rcases hR with rfl | rfl | rfl
  · exact m_readNum_10 hr hk hM hE hO
  · exact m_readNum_18 hr hk hM hE hO
  · exact m_readNum_26 hr hk hM hE hO
end M74
/-- a text of lines: how many, what they come to; or the fault -/
def txF {σ : Type} (L : Nat → Nat → σ → Except (Nat × Nat) (Nat × σ)) (T : Nat → Int32) (n : Nat) : Nat → Nat → Nat → σ → Except (Nat × Nat) (Nat × σ)
  | 0, _, p, _ => .error (1, p)
  | f + 1, k, p, s => match L k p s with
    | .error e => .error e
    | .ok (p1, s1) => if n ≤ p1 then .ok (k + 1, s1) else if cc T n p1 = 59 then txF L T n f (k + 1) (p1 + 1) s1 else .error (1, p1)
theorem on59 {c : Int32} : onl [59] c = true ↔ c = 59 := by
  rw [onl_iff]
  simp
section M74b
variable {K : am_K} {I : am_I} {d : Nat} {v : am_V} {w : am_X} {Q : Option Value → am_H → Prop} {R : Nat} {T : Nat → Int32} {n : Nat} {σ : Type} {L : Nat → Nat → σ → Except (Nat × Nat) (Nat × σ)} {S : Nat → Nat → σ → am_V → Prop} {E : am_V → Prop}
set_option maxRecDepth 100000 in
set_option maxHeartbeats 4000000 in
theorem m_readText_10 (hn : n ≤ 240) (hk : I 2774 = some (fun c => am_sfind c 0 [59])) (hS : ∀ k p s u, S k p s u → rd u 10 T n p) (hSt : ∀ k p s u x, S k p s u → p < n → S k (p + 1) s (am_up (am_up u 10 4 x) 10 3 (nI (p + 1)))) (hSE : ∀ k p s u, S k p s u → E u) (hEu : ∀ u x, E u → E (am_up u 10 2 x)) (hL : ∀ (k p : Nat) (s : σ) (u : am_V) (Q' : Option Value → am_H → Prop), S k p s u → k < n → (∀ e u', L k p s = .error e → E u' → u' 10 2 = flt e → Q' (some (.int 0)) (am_sh, u', w)) → (∀ p1 s1 u', L k p s = .ok (p1, s1) → S (k + 1) p1 s1 u' → Q' (some (.int 1)) (am_sh, u', w)) → am_run K I am_m (d + 2) 50 [.ref 10, .int (nI k)] (am_sh, u, w) 0 0 Q') {s0 : σ} (h0 : S 0 0 s0 (am_up (am_up (am_up v 10 3 0) 10 1 (nI n)) 10 2 0)) (hE : ∀ e v', txF L T n n 0 0 s0 = .error e → E v' → Q (some (.int (flt e))) (am_sh, v', w)) (hO : ∀ k p s v', txF L T n n 0 0 s0 = .ok (k, s) → S k p s v' → Q (some (.int (nI k))) (am_sh, v', w)) : am_run K I am_m (d + 3) 76 [.ref 10, .int (nI n)] (am_sh, v, w) 0 0 Q := by
  have hR' : rdr 10 := by unfold rdr; decide
  refine en_X7_readText rfl ?_
  intro P hP
  have key : ∀ (f k p : Nat) (s : σ) (u : am_V), k + f = n → S k p s u → (∀ e v', txF L T n f k p s = .error e → E v' → Q (some (.int (flt e))) (am_sh, v', w)) → (∀ k' p' s' v', txF L T n f k p s = .ok (k', s') → S k' p' s' v' → Q (some (.int (nI k'))) (am_sh, v', w)) → P (cd_X7_readText.drop 11, [some (.ref 10), some (.int (nI n)), some (.int (nI k))], [], (am_sh, u, w), 0, 0) := by
    intro f
    induction f with
    | zero =>
      intro k p s u hk2 hs hE hO
      ((repeat' first | refine hP _ ?_ | fail); try dsimp only)
      refine ⟨fun _ => ?_, fun c => absurd (nI_le (a := n) (b := k) (by omega) (by omega)) c⟩
      ((repeat' first | refine hP _ ?_ | fail); try dsimp only)
      refine m_cannot hR' (hS k p s u hs).1.2 ?_
      ((repeat' first | refine hP _ ?_ | fail); try dsimp only)
      rw [am_up_eq, if_pos ⟨rfl, rfl⟩]
      exact hE (1, p) _ rfl (hEu _ _ (hSE k p s u hs))
    | succ f ih =>
      intro k p s u hk2 hs hE hO
      unfold txF at hE hO
      ((repeat' first | refine hP _ ?_ | fail); try dsimp only)
      refine ⟨fun c => absurd c (nI_ge (by omega) (by omega)), fun _ => ?_⟩
      ((repeat' first | refine hP _ ?_ | fail); try dsimp only)
      refine hL k p s u _ hs (by omega) (fun e u' he hu hf => ?_) (fun p1 s1 u' ho hu => ?_)
      · rw [he] at hE
        ((repeat' first | refine hP _ ?_ | fail); try dsimp only)
        refine ⟨fun c => absurd rfl c, fun _ => ?_⟩
        ((repeat' first | refine hP _ ?_ | fail); try dsimp only)
        rw [hf]
        exact hE e _ rfl hu
      · rw [ho] at hE hO
        dsimp only at hE hO
        have r1 := hS (k + 1) p1 s1 u' hu
        ((repeat' first | refine hP _ ?_ | fail); try dsimp only)
        refine ⟨fun _ => ?_, fun c => absurd c (by decide)⟩
        ((repeat' first | refine hP _ ?_ | fail); try dsimp only)
        rw [r1.1.1, r1.1.2]
        refine ⟨fun c => ?_, fun c => ?_⟩
        · have c : p1 < n := (nI_ltI (by have := r1.2.2.1.2; omega) (by omega)).mp c
          rw [if_neg (by omega)] at hE hO
          ((repeat' first | refine hP _ ?_ | fail); try dsimp only)
          refine m_takesC hR' r1 hk (by decide) (by decide) (fun h9 => ?_) (fun h9 _ => ?_)
          · rw [if_neg (fun q => absurd (on59.mpr q) (by rw [h9]; decide))] at hE
            ((repeat' first | refine hP _ ?_ | fail); try dsimp only)
            refine ⟨fun c => absurd rfl c, fun _ => ?_⟩
            ((repeat' first | refine hP _ ?_ | fail); try dsimp only)
            refine m_cannot hR' r1.1.2 ?_
            ((repeat' first | refine hP _ ?_ | fail); try dsimp only)
            rw [am_up_eq, if_pos ⟨rfl, rfl⟩]
            exact hE (1, p1) _ rfl (hEu _ _ (hSE (k + 1) p1 s1 u' hu))
          · rw [if_pos (on59.mp h9)] at hE hO
            ((repeat' first | refine hP _ ?_ | fail); try dsimp only)
            refine ⟨fun _ => ?_, fun c => absurd c (by decide)⟩
            ((iterate 2 refine hP _ ?_); try dsimp only)
            rw [nI_1]
            exact ih (k + 1) (p1 + 1) s1 _ (by omega) (hSt _ _ _ _ _ hu c) hE hO
        · have c : n ≤ p1 := Nat.le_of_not_lt (fun q => c (nI_lt q (by omega)))
          rw [if_pos c] at hO
          ((repeat' first | refine hP _ ?_ | fail); try dsimp only)
          rw [nI_1]
          exact hO _ _ _ _ rfl hu
  ((iterate 11 refine hP _ ?_); try dsimp only)
  exact key n 0 0 s0 _ (by omega) h0 hE hO
set_option maxRecDepth 100000 in
set_option maxHeartbeats 4000000 in
theorem m_readText_18 (hn : n ≤ 240) (hk : I 2774 = some (fun c => am_sfind c 0 [59])) (hS : ∀ k p s u, S k p s u → rd u 18 T n p) (hSt : ∀ k p s u x, S k p s u → p < n → S k (p + 1) s (am_up (am_up u 18 4 x) 18 3 (nI (p + 1)))) (hSE : ∀ k p s u, S k p s u → E u) (hEu : ∀ u x, E u → E (am_up u 18 2 x)) (hL : ∀ (k p : Nat) (s : σ) (u : am_V) (Q' : Option Value → am_H → Prop), S k p s u → k < n → (∀ e u', L k p s = .error e → E u' → u' 18 2 = flt e → Q' (some (.int 0)) (am_sh, u', w)) → (∀ p1 s1 u', L k p s = .ok (p1, s1) → S (k + 1) p1 s1 u' → Q' (some (.int 1)) (am_sh, u', w)) → am_run K I am_m (d + 2) 72 [.ref 18, .int (nI k)] (am_sh, u, w) 0 0 Q') {s0 : σ} (h0 : S 0 0 s0 (am_up (am_up (am_up v 18 3 0) 18 1 (nI n)) 18 2 0)) (hE : ∀ e v', txF L T n n 0 0 s0 = .error e → E v' → Q (some (.int (flt e))) (am_sh, v', w)) (hO : ∀ k p s v', txF L T n n 0 0 s0 = .ok (k, s) → S k p s v' → Q (some (.int (nI k))) (am_sh, v', w)) : am_run K I am_m (d + 3) 76 [.ref 18, .int (nI n)] (am_sh, v, w) 0 0 Q := by
  have hR' : rdr 18 := by unfold rdr; decide
  refine en_X7_readText rfl ?_
  intro P hP
  have key : ∀ (f k p : Nat) (s : σ) (u : am_V), k + f = n → S k p s u → (∀ e v', txF L T n f k p s = .error e → E v' → Q (some (.int (flt e))) (am_sh, v', w)) → (∀ k' p' s' v', txF L T n f k p s = .ok (k', s') → S k' p' s' v' → Q (some (.int (nI k'))) (am_sh, v', w)) → P (cd_X7_readText.drop 11, [some (.ref 18), some (.int (nI n)), some (.int (nI k))], [], (am_sh, u, w), 0, 0) := by
    intro f
    induction f with
    | zero =>
      intro k p s u hk2 hs hE hO
      ((repeat' first | refine hP _ ?_ | fail); try dsimp only)
      refine ⟨fun _ => ?_, fun c => absurd (nI_le (a := n) (b := k) (by omega) (by omega)) c⟩
      ((repeat' first | refine hP _ ?_ | fail); try dsimp only)
      refine m_cannot hR' (hS k p s u hs).1.2 ?_
      ((repeat' first | refine hP _ ?_ | fail); try dsimp only)
      rw [am_up_eq, if_pos ⟨rfl, rfl⟩]
      exact hE (1, p) _ rfl (hEu _ _ (hSE k p s u hs))
    | succ f ih =>
      intro k p s u hk2 hs hE hO
      unfold txF at hE hO
      ((repeat' first | refine hP _ ?_ | fail); try dsimp only)
      refine ⟨fun c => absurd c (nI_ge (by omega) (by omega)), fun _ => ?_⟩
      ((repeat' first | refine hP _ ?_ | fail); try dsimp only)
      refine hL k p s u _ hs (by omega) (fun e u' he hu hf => ?_) (fun p1 s1 u' ho hu => ?_)
      · rw [he] at hE
        ((repeat' first | refine hP _ ?_ | fail); try dsimp only)
        refine ⟨fun c => absurd rfl c, fun _ => ?_⟩
        ((repeat' first | refine hP _ ?_ | fail); try dsimp only)
        rw [hf]
        exact hE e _ rfl hu
      · rw [ho] at hE hO
        dsimp only at hE hO
        have r1 := hS (k + 1) p1 s1 u' hu
        ((repeat' first | refine hP _ ?_ | fail); try dsimp only)
        refine ⟨fun _ => ?_, fun c => absurd c (by decide)⟩
        ((repeat' first | refine hP _ ?_ | fail); try dsimp only)
        rw [r1.1.1, r1.1.2]
        refine ⟨fun c => ?_, fun c => ?_⟩
        · have c : p1 < n := (nI_ltI (by have := r1.2.2.1.2; omega) (by omega)).mp c
          rw [if_neg (by omega)] at hE hO
          ((repeat' first | refine hP _ ?_ | fail); try dsimp only)
          refine m_takesC hR' r1 hk (by decide) (by decide) (fun h9 => ?_) (fun h9 _ => ?_)
          · rw [if_neg (fun q => absurd (on59.mpr q) (by rw [h9]; decide))] at hE
            ((repeat' first | refine hP _ ?_ | fail); try dsimp only)
            refine ⟨fun c => absurd rfl c, fun _ => ?_⟩
            ((repeat' first | refine hP _ ?_ | fail); try dsimp only)
            refine m_cannot hR' r1.1.2 ?_
            ((repeat' first | refine hP _ ?_ | fail); try dsimp only)
            rw [am_up_eq, if_pos ⟨rfl, rfl⟩]
            exact hE (1, p1) _ rfl (hEu _ _ (hSE (k + 1) p1 s1 u' hu))
          · rw [if_pos (on59.mp h9)] at hE hO
            ((repeat' first | refine hP _ ?_ | fail); try dsimp only)
            refine ⟨fun _ => ?_, fun c => absurd c (by decide)⟩
            ((iterate 2 refine hP _ ?_); try dsimp only)
            rw [nI_1]
            exact ih (k + 1) (p1 + 1) s1 _ (by omega) (hSt _ _ _ _ _ hu c) hE hO
        · have c : n ≤ p1 := Nat.le_of_not_lt (fun q => c (nI_lt q (by omega)))
          rw [if_pos c] at hO
          ((repeat' first | refine hP _ ?_ | fail); try dsimp only)
          rw [nI_1]
          exact hO _ _ _ _ rfl hu
  ((iterate 11 refine hP _ ?_); try dsimp only)
  exact key n 0 0 s0 _ (by omega) h0 hE hO
set_option maxRecDepth 100000 in
set_option maxHeartbeats 4000000 in
theorem m_readText_26 (hn : n ≤ 240) (hk : I 2774 = some (fun c => am_sfind c 0 [59])) (hS : ∀ k p s u, S k p s u → rd u 26 T n p) (hSt : ∀ k p s u x, S k p s u → p < n → S k (p + 1) s (am_up (am_up u 26 4 x) 26 3 (nI (p + 1)))) (hSE : ∀ k p s u, S k p s u → E u) (hEu : ∀ u x, E u → E (am_up u 26 2 x)) (hL : ∀ (k p : Nat) (s : σ) (u : am_V) (Q' : Option Value → am_H → Prop), S k p s u → k < n → (∀ e u', L k p s = .error e → E u' → u' 26 2 = flt e → Q' (some (.int 0)) (am_sh, u', w)) → (∀ p1 s1 u', L k p s = .ok (p1, s1) → S (k + 1) p1 s1 u' → Q' (some (.int 1)) (am_sh, u', w)) → am_run K I am_m (d + 2) 101 [.ref 26, .int (nI k)] (am_sh, u, w) 0 0 Q') {s0 : σ} (h0 : S 0 0 s0 (am_up (am_up (am_up v 26 3 0) 26 1 (nI n)) 26 2 0)) (hE : ∀ e v', txF L T n n 0 0 s0 = .error e → E v' → Q (some (.int (flt e))) (am_sh, v', w)) (hO : ∀ k p s v', txF L T n n 0 0 s0 = .ok (k, s) → S k p s v' → Q (some (.int (nI k))) (am_sh, v', w)) : am_run K I am_m (d + 3) 76 [.ref 26, .int (nI n)] (am_sh, v, w) 0 0 Q := by
  have hR' : rdr 26 := by unfold rdr; decide
  refine en_X7_readText rfl ?_
  intro P hP
  have key : ∀ (f k p : Nat) (s : σ) (u : am_V), k + f = n → S k p s u → (∀ e v', txF L T n f k p s = .error e → E v' → Q (some (.int (flt e))) (am_sh, v', w)) → (∀ k' p' s' v', txF L T n f k p s = .ok (k', s') → S k' p' s' v' → Q (some (.int (nI k'))) (am_sh, v', w)) → P (cd_X7_readText.drop 11, [some (.ref 26), some (.int (nI n)), some (.int (nI k))], [], (am_sh, u, w), 0, 0) := by
    intro f
    induction f with
    | zero =>
      intro k p s u hk2 hs hE hO
      ((repeat' first | refine hP _ ?_ | fail); try dsimp only)
      refine ⟨fun _ => ?_, fun c => absurd (nI_le (a := n) (b := k) (by omega) (by omega)) c⟩
      ((repeat' first | refine hP _ ?_ | fail); try dsimp only)
      refine m_cannot hR' (hS k p s u hs).1.2 ?_
      ((repeat' first | refine hP _ ?_ | fail); try dsimp only)
      rw [am_up_eq, if_pos ⟨rfl, rfl⟩]
      exact hE (1, p) _ rfl (hEu _ _ (hSE k p s u hs))
    | succ f ih =>
      intro k p s u hk2 hs hE hO
      unfold txF at hE hO
      ((repeat' first | refine hP _ ?_ | fail); try dsimp only)
      refine ⟨fun c => absurd c (nI_ge (by omega) (by omega)), fun _ => ?_⟩
      ((repeat' first | refine hP _ ?_ | fail); try dsimp only)
      refine hL k p s u _ hs (by omega) (fun e u' he hu hf => ?_) (fun p1 s1 u' ho hu => ?_)
      · rw [he] at hE
        ((repeat' first | refine hP _ ?_ | fail); try dsimp only)
        refine ⟨fun c => absurd rfl c, fun _ => ?_⟩
        ((repeat' first | refine hP _ ?_ | fail); try dsimp only)
        rw [hf]
        exact hE e _ rfl hu
      · rw [ho] at hE hO
        dsimp only at hE hO
        have r1 := hS (k + 1) p1 s1 u' hu
        ((repeat' first | refine hP _ ?_ | fail); try dsimp only)
        refine ⟨fun _ => ?_, fun c => absurd c (by decide)⟩
        ((repeat' first | refine hP _ ?_ | fail); try dsimp only)
        rw [r1.1.1, r1.1.2]
        refine ⟨fun c => ?_, fun c => ?_⟩
        · have c : p1 < n := (nI_ltI (by have := r1.2.2.1.2; omega) (by omega)).mp c
          rw [if_neg (by omega)] at hE hO
          ((repeat' first | refine hP _ ?_ | fail); try dsimp only)
          refine m_takesC hR' r1 hk (by decide) (by decide) (fun h9 => ?_) (fun h9 _ => ?_)
          · rw [if_neg (fun q => absurd (on59.mpr q) (by rw [h9]; decide))] at hE
            ((repeat' first | refine hP _ ?_ | fail); try dsimp only)
            refine ⟨fun c => absurd rfl c, fun _ => ?_⟩
            ((repeat' first | refine hP _ ?_ | fail); try dsimp only)
            refine m_cannot hR' r1.1.2 ?_
            ((repeat' first | refine hP _ ?_ | fail); try dsimp only)
            rw [am_up_eq, if_pos ⟨rfl, rfl⟩]
            exact hE (1, p1) _ rfl (hEu _ _ (hSE (k + 1) p1 s1 u' hu))
          · rw [if_pos (on59.mp h9)] at hE hO
            ((repeat' first | refine hP _ ?_ | fail); try dsimp only)
            refine ⟨fun _ => ?_, fun c => absurd c (by decide)⟩
            ((iterate 2 refine hP _ ?_); try dsimp only)
            rw [nI_1]
            exact ih (k + 1) (p1 + 1) s1 _ (by omega) (hSt _ _ _ _ _ hu c) hE hO
        · have c : n ≤ p1 := Nat.le_of_not_lt (fun q => c (nI_lt q (by omega)))
          rw [if_pos c] at hO
          ((repeat' first | refine hP _ ?_ | fail); try dsimp only)
          rw [nI_1]
          exact hO _ _ _ _ rfl hu
  ((iterate 11 refine hP _ ?_); try dsimp only)
  exact key n 0 0 s0 _ (by omega) h0 hE hO
end M74b
/-! the reference's place -/
def rdR (v : am_V) (T : Nat → Int32) (n p : Nat) : Prop := (v 62 7 = nI p ∧ v 62 8 = nI n) ∧ (∀ i, i < n → v 66 i &&& 255 = T i) ∧ n ≤ 240 ∧ p ≤ n
section M74c
variable {K : am_K} {I : am_I} {d : Nat} {v : am_V} {w : am_X} {Q : Option Value → am_H → Prop} {T : Nat → Int32} {n p : Nat}
set_option maxRecDepth 100000 in
set_option maxHeartbeats 4000000 in
theorem m_here (hr : rdR v T n p) (h : Q (some (.int (cc T n p))) (am_sh, v, w)) : am_run K I am_m (d + 1) 152 [.ref 62] (am_sh, v, w) 0 0 Q := by
  obtain ⟨⟨e7, e8⟩, e, hn, hp⟩ := hr
  refine en_X12_here rfl ?_
  intro P hP
  ((repeat' first | refine hP _ ?_ | fail); try dsimp only)
  rw [e7, e8]
  refine ⟨fun c => ?_, fun c => ?_⟩
  · rw [cc_ge ((nI_leI (by omega) (by omega)).mp c)] at h
    ((repeat' first | refine hP _ ?_ | fail); try dsimp only)
    exact h
  · have c : p < n := Nat.lt_of_not_le (fun q => c (nI_le q (by omega)))
    ((repeat' first | refine hP _ ?_ | fail); try dsimp only)
    rw [e7]
    refine ⟨vp_in_nI (by omega) (by omega), ?_⟩
    ((repeat' first | refine hP _ ?_ | fail); try dsimp only)
    rw [nI_clamp (by omega), e p c]
    rw [cc_lt c] at h
    exact h
set_option maxRecDepth 100000 in
set_option maxHeartbeats 4000000 in
theorem m_isDig (hr : rdR v T n p) (h : Q (some (.int (b2i (onl dgL (cc T n p))))) (am_sh, v, w)) : am_run K I am_m (d + 2) 153 [.ref 62] (am_sh, v, w) 0 0 Q := by
  have no : ¬ (48 ≤ cc T n p ∧ cc T n p ≤ 57) → Q (some (.int 0)) (am_sh, v, w) := fun q => by
    have e : onl dgL (cc T n p) = false := by
      cases ho : onl dgL (cc T n p)
      · rfl
      · exact absurd (dgL_iff.mp ho) q
    rw [e] at h
    exact h
  refine en_X12_isDigit rfl ?_
  intro P hP
  ((repeat' first | refine hP _ ?_ | fail); try dsimp only)
  refine m_here hr ?_
  ((repeat' first | refine hP _ ?_ | fail); try dsimp only)
  refine ⟨fun c => ?_, fun c => ?_⟩
  · ((repeat' first | refine hP _ ?_ | fail); try dsimp only)
    exact ⟨Or.inl rfl, no (fun q => absurd q.1 (Int32.not_le.mpr c))⟩
  · ((repeat' first | refine hP _ ?_ | fail); try dsimp only)
    refine m_here hr ?_
    ((repeat' first | refine hP _ ?_ | fail); try dsimp only)
    refine ⟨fun c2 => ?_, fun c2 => ?_⟩
    · ((repeat' first | refine hP _ ?_ | fail); try dsimp only)
      exact ⟨Or.inl rfl, no (fun q => absurd q.2 (Int32.not_le.mpr c2))⟩
    · ((repeat' first | refine hP _ ?_ | fail); try dsimp only)
      rw [dgL_iff.mpr ⟨Int32.not_lt.mp c, Int32.not_lt.mp c2⟩] at h
      exact ⟨Or.inr rfl, h⟩
set_option maxRecDepth 100000 in
set_option maxHeartbeats 4000000 in
theorem m_wrongAt {a b : Int32} (h : Q (some (.int 0)) (am_sh, am_up v 62 9 (-1000 * a - b), w)) : am_run K I am_m (d + 1) 154 [.ref 62, .int a, .int b] (am_sh, v, w) 0 0 Q := by
  refine en_X12_wrongAt rfl ?_
  intro P hP
  ((repeat' first | refine hP _ ?_ | fail); try dsimp only)
  exact ⟨Or.inl rfl, h⟩
/-- what reading may change in the reference's object: place0, fault, number0 -/
def frN (v v' : am_V) : Prop := (∀ k, k ≠ 62 → v' k = v k) ∧ ∀ j, j ≠ 7 → j ≠ 9 → j ≠ 10 → v' 62 j = v 62 j
theorem frN.rf : frN v v := ⟨fun _ _ => rfl, fun _ _ _ _ => rfl⟩
theorem frN.tr {v1 v2 : am_V} (h1 : frN v v1) (h2 : frN v1 v2) : frN v v2 := ⟨fun k hk => by rw [h2.1 k hk, h1.1 k hk], fun j a b c => by rw [h2.2 j a b c, h1.2 j a b c]⟩
theorem frN.up {v1 : am_V} (h1 : frN v v1) {j : Nat} (hj : j = 7 ∨ j = 9 ∨ j = 10) (x : Int32) : frN v (am_up v1 62 j x) := ⟨fun k hk => by rw [am_up_ne _ _ _ hk, h1.1 k hk], fun i a b c => by rw [am_up_eq, if_neg (fun q => by have := q.2; omega), h1.2 i a b c]⟩
theorem rdR.of {v' : am_V} {p' : Nat} (h : rdR v T n p) (hf : frN v v') (h7 : v' 62 7 = nI p') (hp : p' ≤ n) : rdR v' T n p' := by
  obtain ⟨⟨-, b⟩, c, e, -⟩ := h
  refine ⟨⟨h7, ?_⟩, ?_, e, hp⟩
  · rw [hf.2 8 (by decide) (by decide) (by decide)]
    exact b
  · rw [hf.1 66 (by decide)]
    exact c
set_option maxRecDepth 100000 in
set_option maxHeartbeats 4000000 in
theorem m_takesR (hr : rdR v T n p) {c : Int32} (hc : ¬ c = -1) (h0 : ¬ cc T n p = c → Q (some (.int 0)) (am_sh, am_up v 62 9 (flt (1, p)), w)) (h1 : cc T n p = c → p < n → Q (some (.int 1)) (am_sh, am_up v 62 7 (nI (p + 1)), w)) : am_run K I am_m (d + 2) 155 [.ref 62, .int c] (am_sh, v, w) 0 0 Q := by
  refine en_X12_takes rfl ?_
  intro P hP
  ((repeat' first | refine hP _ ?_ | fail); try dsimp only)
  refine m_here hr ?_
  ((repeat' first | refine hP _ ?_ | fail); try dsimp only)
  refine ⟨fun e => ?_, fun e => ?_⟩
  · have hp : p < n := by
      rcases Nat.lt_or_ge p n with q | q
      · exact q
      · rw [cc_ge q] at e
        exact absurd e.symm hc
    ((repeat' first | refine hP _ ?_ | fail); try dsimp only)
    rw [hr.1.1, nI_1]
    exact ⟨Or.inr rfl, h1 e hp⟩
  · ((repeat' first | refine hP _ ?_ | fail); try dsimp only)
    rw [hr.1.1]
    refine m_wrongAt ?_
    ((repeat' first | refine hP _ ?_ | fail); try dsimp only)
    exact ⟨Or.inl rfl, h0 e⟩
end M74c
