/-! ===== orders: the reference; the pair ===== -/
section M77
variable {K : am_K} {I : am_I} {d : Nat} {v : am_V} {w : am_X} {Q : Option Value → am_H → Prop} {T : Nat → Int32} {n p : Nat}
theorem nv_stepR {x j : Nat} : 10 * nI x + nI (48 + j) - 48 = nI (x * 10 + j) := by
  rw [Int32.mul_comm, nv_step]
set_option maxRecDepth 100000 in
set_option maxHeartbeats 4000000 in
theorem lp_num_3 {cd : List am_E} {a b : Nat} {P : am_C → Prop} (hcd : (cd = cd_X12_readsAmount ∧ a = 15 ∧ b = 48 ∧ 3 = 3) ∨ (cd = cd_X12_readsNumber ∧ a = 6 ∧ b = 39 ∧ 3 = 5)) (hP : ∀ c, am_step K I (am_run K I am_m (d + 2)) cd 0 0 Q P c → P c) (hr : rdR v T n p) : ∀ (m j x : Nat) (u : am_V), j + m = 3 → frN v u → u 62 7 = nI (p + j) → p + j ≤ n → u 62 10 = nI x → (onl dgL (cc T n (p + j + nd T n m (p + j))) = true → ∀ u' : am_V, frN v u' → u' 62 9 = flt (2, p + j + nd T n m (p + j)) → Q (some (.int 0)) (am_sh, u', w)) → (onl dgL (cc T n (p + j + nd T n m (p + j))) = false → ∀ u' : am_V, frN v u' → u' 62 7 = nI (p + j + nd T n m (p + j)) → u' 62 10 = nI (nv T n m (p + j) x) → Q (some (.int 1)) (am_sh, u', w)) → P (cd.drop a, [some (.ref 62), some (.int (nI p))], [], (am_sh, u, w), 0, 0) := by
  have hn := hr.2.2.1
  rcases hcd with ⟨rfl, rfl, rfl, h3⟩ | ⟨rfl, rfl, rfl, h3⟩
  all_goals first | exact absurd h3 (by decide) | skip
  all_goals
    intro m
    induction m with
    | zero =>
      intro j x u hj hf h7 hle h10 hE hO
      have ru := hr.of hf h7 hle
      unfold nd nv at hO
      unfold nd at hE
      rw [Nat.add_zero] at hE hO
      ((repeat' first | refine hP _ ?_ | fail); try dsimp only)
      refine m_isDig ru ?_
      ((repeat' first | refine hP _ ?_ | fail); try dsimp only)
      cases ho : onl dgL (cc T n (p + j)) with
      | false =>
        refine ⟨fun _ => ?_, fun c => absurd rfl c⟩
        ((repeat' first | refine hP _ ?_ | fail); try dsimp only)
        exact ⟨Or.inr rfl, hO ho u hf h7 h10⟩
      | true =>
        refine ⟨fun c => absurd c (by decide), fun _ => ?_⟩
        ((repeat' first | refine hP _ ?_ | fail); try dsimp only)
        rw [h7, show nI p + 3 = nI (p + 3) from nI_add p 3, show j = 3 by omega]
        refine ⟨fun c => absurd rfl c, fun _ => ?_⟩
        ((repeat' first | refine hP _ ?_ | fail); try dsimp only)
        rw [h7]
        refine m_wrongAt ?_
        ((repeat' first | refine hP _ ?_ | fail); try dsimp only)
        exact ⟨Or.inl rfl, hE ho _ (hf.up (by omega) _) (by rw [am_up_eq, if_pos ⟨rfl, rfl⟩]; rfl)⟩
    | succ m ih =>
      intro j x u hj hf h7 hle h10 hE hO
      have ru := hr.of hf h7 hle
      unfold nd nv at hO
      unfold nd at hE
      ((repeat' first | refine hP _ ?_ | fail); try dsimp only)
      refine m_isDig ru ?_
      ((repeat' first | refine hP _ ?_ | fail); try dsimp only)
      cases ho : onl dgL (cc T n (p + j)) with
      | false =>
        rw [ho] at hO
        rw [if_neg (by decide), if_neg (by decide), Nat.add_zero] at hO
        refine ⟨fun _ => ?_, fun c => absurd rfl c⟩
        ((repeat' first | refine hP _ ?_ | fail); try dsimp only)
        exact ⟨Or.inr rfl, hO ho u hf h7 h10⟩
      | true =>
        obtain ⟨q, hq, e1, e2⟩ := dg_nat ho
        have hlt := onl_lt dg_m1 ho
        rw [if_pos ho, if_pos ho, e2] at hO
        rw [if_pos ho] at hE
        refine ⟨fun c => absurd c (by decide), fun _ => ?_⟩
        ((repeat' first | refine hP _ ?_ | fail); try dsimp only)
        rw [h7, show nI p + 3 = nI (p + 3) from nI_add p 3]
        refine ⟨fun _ => ?_, fun c => absurd ((nI_eq (by omega) (by omega)).mp c) (by omega)⟩
        ((repeat' first | refine hP _ ?_ | fail); try dsimp only)
        refine m_here ru ?_
        rw [h10, e1]
        ((iterate 11 refine hP _ ?_); try dsimp only)
        rw [nv_stepR, am_up_eq, if_neg (by decide), h7, nI_1]
        refine ih (j + 1) (x * 10 + q) _ (by omega) ((hf.up (by omega) _).up (by omega) _) (by rw [am_up_eq, if_pos ⟨rfl, rfl⟩]; rfl) (by omega) (by rw [am_up_eq, if_neg (by decide), am_up_eq, if_pos ⟨rfl, rfl⟩]) ?_ ?_
        · rw [show p + (j + 1) + nd T n m (p + (j + 1)) = p + j + (nd T n m (p + j + 1) + 1) by rw [show p + (j + 1) = p + j + 1 by omega]; omega]
          exact hE
        · rw [show p + (j + 1) + nd T n m (p + (j + 1)) = p + j + (nd T n m (p + j + 1) + 1) by rw [show p + (j + 1) = p + j + 1 by omega]; omega, show p + (j + 1) = p + j + 1 by omega]
          exact hO
set_option maxRecDepth 100000 in
set_option maxHeartbeats 4000000 in
theorem lp_num_5 {cd : List am_E} {a b : Nat} {P : am_C → Prop} (hcd : (cd = cd_X12_readsAmount ∧ a = 15 ∧ b = 48 ∧ 5 = 3) ∨ (cd = cd_X12_readsNumber ∧ a = 6 ∧ b = 39 ∧ 5 = 5)) (hP : ∀ c, am_step K I (am_run K I am_m (d + 2)) cd 0 0 Q P c → P c) (hr : rdR v T n p) : ∀ (m j x : Nat) (u : am_V), j + m = 5 → frN v u → u 62 7 = nI (p + j) → p + j ≤ n → u 62 10 = nI x → (onl dgL (cc T n (p + j + nd T n m (p + j))) = true → ∀ u' : am_V, frN v u' → u' 62 9 = flt (2, p + j + nd T n m (p + j)) → Q (some (.int 0)) (am_sh, u', w)) → (onl dgL (cc T n (p + j + nd T n m (p + j))) = false → ∀ u' : am_V, frN v u' → u' 62 7 = nI (p + j + nd T n m (p + j)) → u' 62 10 = nI (nv T n m (p + j) x) → Q (some (.int 1)) (am_sh, u', w)) → P (cd.drop a, [some (.ref 62), some (.int (nI p))], [], (am_sh, u, w), 0, 0) := by
  have hn := hr.2.2.1
  rcases hcd with ⟨rfl, rfl, rfl, h3⟩ | ⟨rfl, rfl, rfl, h3⟩
  all_goals first | exact absurd h3 (by decide) | skip
  all_goals
    intro m
    induction m with
    | zero =>
      intro j x u hj hf h7 hle h10 hE hO
      have ru := hr.of hf h7 hle
      unfold nd nv at hO
      unfold nd at hE
      rw [Nat.add_zero] at hE hO
      ((repeat' first | refine hP _ ?_ | fail); try dsimp only)
      refine m_isDig ru ?_
      ((repeat' first | refine hP _ ?_ | fail); try dsimp only)
      cases ho : onl dgL (cc T n (p + j)) with
      | false =>
        refine ⟨fun _ => ?_, fun c => absurd rfl c⟩
        ((repeat' first | refine hP _ ?_ | fail); try dsimp only)
        exact ⟨Or.inr rfl, hO ho u hf h7 h10⟩
      | true =>
        refine ⟨fun c => absurd c (by decide), fun _ => ?_⟩
        ((repeat' first | refine hP _ ?_ | fail); try dsimp only)
        rw [h7, show nI p + 5 = nI (p + 5) from nI_add p 5, show j = 5 by omega]
        refine ⟨fun c => absurd rfl c, fun _ => ?_⟩
        ((repeat' first | refine hP _ ?_ | fail); try dsimp only)
        rw [h7]
        refine m_wrongAt ?_
        ((repeat' first | refine hP _ ?_ | fail); try dsimp only)
        exact ⟨Or.inl rfl, hE ho _ (hf.up (by omega) _) (by rw [am_up_eq, if_pos ⟨rfl, rfl⟩]; rfl)⟩
    | succ m ih =>
      intro j x u hj hf h7 hle h10 hE hO
      have ru := hr.of hf h7 hle
      unfold nd nv at hO
      unfold nd at hE
      ((repeat' first | refine hP _ ?_ | fail); try dsimp only)
      refine m_isDig ru ?_
      ((repeat' first | refine hP _ ?_ | fail); try dsimp only)
      cases ho : onl dgL (cc T n (p + j)) with
      | false =>
        rw [ho] at hO
        rw [if_neg (by decide), if_neg (by decide), Nat.add_zero] at hO
        refine ⟨fun _ => ?_, fun c => absurd rfl c⟩
        ((repeat' first | refine hP _ ?_ | fail); try dsimp only)
        exact ⟨Or.inr rfl, hO ho u hf h7 h10⟩
      | true =>
        obtain ⟨q, hq, e1, e2⟩ := dg_nat ho
        have hlt := onl_lt dg_m1 ho
        rw [if_pos ho, if_pos ho, e2] at hO
        rw [if_pos ho] at hE
        refine ⟨fun c => absurd c (by decide), fun _ => ?_⟩
        ((repeat' first | refine hP _ ?_ | fail); try dsimp only)
        rw [h7, show nI p + 5 = nI (p + 5) from nI_add p 5]
        refine ⟨fun _ => ?_, fun c => absurd ((nI_eq (by omega) (by omega)).mp c) (by omega)⟩
        ((repeat' first | refine hP _ ?_ | fail); try dsimp only)
        refine m_here ru ?_
        rw [h10, e1]
        ((iterate 11 refine hP _ ?_); try dsimp only)
        rw [nv_stepR, am_up_eq, if_neg (by decide), h7, nI_1]
        refine ih (j + 1) (x * 10 + q) _ (by omega) ((hf.up (by omega) _).up (by omega) _) (by rw [am_up_eq, if_pos ⟨rfl, rfl⟩]; rfl) (by omega) (by rw [am_up_eq, if_neg (by decide), am_up_eq, if_pos ⟨rfl, rfl⟩]) ?_ ?_
        · rw [show p + (j + 1) + nd T n m (p + (j + 1)) = p + j + (nd T n m (p + j + 1) + 1) by rw [show p + (j + 1) = p + j + 1 by omega]; omega]
          exact hE
        · rw [show p + (j + 1) + nd T n m (p + (j + 1)) = p + j + (nd T n m (p + j + 1) + 1) by rw [show p + (j + 1) = p + j + 1 by omega]; omega, show p + (j + 1) = p + j + 1 by omega]
          exact hO
set_option maxRecDepth 100000 in
set_option maxHeartbeats 4000000 in
theorem m_amount (hr : rdR v T n p) (hE : ∀ (e : Nat × Nat) (v' : am_V), numF T n 3 p = .error e → frN v v' → v' 62 9 = flt e → Q (some (.int 0)) (am_sh, v', w)) (hO : ∀ (p1 x : Nat) (v' : am_V), numF T n 3 p = .ok (p1, x) → frN v v' → v' 62 7 = nI p1 → p1 ≤ n → v' 62 10 = nI x → Q (some (.int 1)) (am_sh, v', w)) : am_run K I am_m (d + 3) 179 [.ref 62] (am_sh, v, w) 0 0 Q := by
  have hp := hr.2.2.2
  have hnd := nd_le T n 3 p hp
  unfold numF at hE hO
  refine en_X12_readsAmount rfl ?_
  intro P hP
  ((repeat' first | refine hP _ ?_ | fail); try dsimp only)
  rw [hr.1.1]
  refine m_isDig hr ?_
  ((repeat' first | refine hP _ ?_ | fail); try dsimp only)
  cases ho : onl dgL (cc T n p) with
  | false =>
    rw [if_pos (show nd T n 3 p = 0 by unfold nd; rw [ho]; rfl)] at hE
    refine ⟨fun c => absurd rfl c, fun _ => ?_⟩
    ((repeat' first | refine hP _ ?_ | fail); try dsimp only)
    rw [hr.1.1]
    refine m_wrongAt ?_
    ((repeat' first | refine hP _ ?_ | fail); try dsimp only)
    exact ⟨Or.inl rfl, hE (1, p) _ rfl (frN.rf.up (by omega) _) (by rw [am_up_eq, if_pos ⟨rfl, rfl⟩]; rfl)⟩
  | true =>
    have h0 : ¬ nd T n 3 p = 0 := by
      unfold nd
      rw [if_pos ho]
      omega
    rw [if_neg h0] at hE hO
    refine ⟨fun _ => ?_, fun c => absurd c (by decide)⟩
    ((iterate 3 refine hP _ ?_); try dsimp only)
    refine lp_num_3 (Or.inl ⟨rfl, rfl, rfl, rfl⟩) hP hr 3 0 0 (am_up v 62 10 0) (by omega) (frN.rf.up (by omega) _) (by rw [am_up_eq, if_neg (by decide)]; exact hr.1.1) hp (by rw [am_up_eq, if_pos ⟨rfl, rfl⟩]; rfl) (fun g u' f' e => ?_) (fun g u' f' e7 e10 => ?_)
    · rw [Nat.add_zero] at g e
      rw [if_pos g] at hE
      exact hE _ u' rfl f' e
    · rw [Nat.add_zero] at g e7 e10
      rw [if_neg (by rw [g]; decide)] at hO
      exact hO _ _ u' rfl f' e7 hnd e10
set_option maxRecDepth 100000 in
set_option maxHeartbeats 4000000 in
theorem m_obeys_0 {o : od_O} (ho : od_ok o) (h3 : (o.2.1 = 104 ∨ o.2.1 = 111) ∨ v 62 10 = nI o.2.2) (h : ∀ v' : am_V, (∀ c, c ≠ 63 → v' c = v c) → v' 63 = ob1 0 o.2.1 o.2.2 (v 63) → Q none (am_sh, v', w)) : am_run K I am_m (d + 2) 180 [.ref 62, .int 0, .int o.2.1] (am_sh, v, w) 0 0 Q := by
  have up : ∀ (f : Nat) (y : Int32) (c : Nat), c ≠ 63 → am_up v 63 f y c = v c := fun f y c h1 => by rw [am_up_ne _ _ _ h1]
  obtain ⟨wh, c, x⟩ := o
  dsimp only at h3 h ⊢
  have hc : onl wtL c = true := ho.2.1
  refine en_X12_obeys rfl ?_
  intro P hP
  have nx : ¬ (c = 104 ∨ c = 111) → v 62 10 = nI x := fun q => h3.elim (fun z => absurd z q) id
  rcases wt_5 hc with rfl | rfl | rfl | rfl | rfl
  · have e := nx (by decide)
    ((repeat' first | refine hP _ ?_ | fail); try dsimp only)
    refine ⟨fun z => absurd z (by decide), fun _ => ⟨fun z => absurd z (by decide), fun _ => ⟨fun _ => ?_, fun z => absurd (by decide) z⟩⟩⟩
    ((repeat' first | refine hP _ ?_ | fail); try dsimp only)
    refine ⟨am_vin rfl, ?_⟩
    ((repeat' first | refine hP _ ?_ | fail); try dsimp only)
    rw [e]
    refine m_X12_max ?_
    rw [f_mx2]
    ((repeat' first | refine hP _ ?_ | fail); try dsimp only)
    refine ⟨am_vin rfl, ?_⟩
    ((repeat' first | refine hP _ ?_ | fail); try dsimp only)
    refine h _ (up _ _) ?_
    funext j
    simp [ob1, am_up_eq, tn_0_0, tn_0_1]
  · have e := nx (by decide)
    ((repeat' first | refine hP _ ?_ | fail); try dsimp only)
    refine ⟨fun z => absurd z (by decide), fun _ => ⟨fun _ => ?_, fun z => absurd (by decide) z⟩⟩
    ((repeat' first | refine hP _ ?_ | fail); try dsimp only)
    rw [e]
    refine ⟨am_vin rfl, ?_⟩
    ((repeat' first | refine hP _ ?_ | fail); try dsimp only)
    refine h _ (up _ _) ?_
    funext j
    simp [ob1, am_up_eq, tn_2_0, tn_2_1]
  · ((repeat' first | refine hP _ ?_ | fail); try dsimp only)
    refine ⟨fun z => absurd z (by decide), fun _ => ⟨fun z => absurd z (by decide), fun _ => ⟨fun z => absurd z (by decide), fun _ => ?_⟩⟩⟩
    ((repeat' first | refine hP _ ?_ | fail); try dsimp only)
    refine ⟨fun z => absurd rfl z, fun _ => ?_⟩
    ((repeat' first | refine hP _ ?_ | fail); try dsimp only)
    refine ⟨am_vin rfl, ?_⟩
    ((repeat' first | refine hP _ ?_ | fail); try dsimp only)
    refine h _ (up _ _) ?_
    funext j
    simp [ob1, am_up_eq, tn_6_0, tn_6_1]
  · ((repeat' first | refine hP _ ?_ | fail); try dsimp only)
    refine ⟨fun z => absurd z (by decide), fun _ => ⟨fun z => absurd z (by decide), fun _ => ⟨fun z => absurd z (by decide), fun _ => ?_⟩⟩⟩
    ((repeat' first | refine hP _ ?_ | fail); try dsimp only)
    refine ⟨fun _ => ?_, fun z => absurd z (by decide)⟩
    ((repeat' first | refine hP _ ?_ | fail); try dsimp only)
    refine ⟨am_vin rfl, ?_⟩
    ((repeat' first | refine hP _ ?_ | fail); try dsimp only)
    refine h _ (up _ _) ?_
    funext j
    simp [ob1, am_up_eq, tn_6_0, tn_6_1]
  · have e := nx (by decide)
    ((repeat' first | refine hP _ ?_ | fail); try dsimp only)
    refine ⟨fun _ => ?_, fun z => absurd (by decide) z⟩
    ((repeat' first | refine hP _ ?_ | fail); try dsimp only)
    refine ⟨am_vin rfl, ?_⟩
    ((repeat' first | refine hP _ ?_ | fail); try dsimp only)
    rw [e]
    refine m_X12_max ?_
    rw [f_mx2]
    ((repeat' first | refine hP _ ?_ | fail); try dsimp only)
    refine ⟨am_vin rfl, ?_⟩
    ((repeat' first | refine hP _ ?_ | fail); try dsimp only)
    refine h _ (up _ _) ?_
    funext j
    simp [ob1, am_up_eq, tn_4_0, tn_4_1]
set_option maxRecDepth 100000 in
set_option maxHeartbeats 4000000 in
theorem m_obeys_1 {o : od_O} (ho : od_ok o) (h3 : (o.2.1 = 104 ∨ o.2.1 = 111) ∨ v 62 10 = nI o.2.2) (h : ∀ v' : am_V, (∀ c, c ≠ 63 → v' c = v c) → v' 63 = ob1 1 o.2.1 o.2.2 (v 63) → Q none (am_sh, v', w)) : am_run K I am_m (d + 2) 180 [.ref 62, .int 1, .int o.2.1] (am_sh, v, w) 0 0 Q := by
  have up : ∀ (f : Nat) (y : Int32) (c : Nat), c ≠ 63 → am_up v 63 f y c = v c := fun f y c h1 => by rw [am_up_ne _ _ _ h1]
  obtain ⟨wh, c, x⟩ := o
  dsimp only at h3 h ⊢
  have hc : onl wtL c = true := ho.2.1
  refine en_X12_obeys rfl ?_
  intro P hP
  have nx : ¬ (c = 104 ∨ c = 111) → v 62 10 = nI x := fun q => h3.elim (fun z => absurd z q) id
  rcases wt_5 hc with rfl | rfl | rfl | rfl | rfl
  · have e := nx (by decide)
    ((repeat' first | refine hP _ ?_ | fail); try dsimp only)
    refine ⟨fun z => absurd z (by decide), fun _ => ⟨fun z => absurd z (by decide), fun _ => ⟨fun _ => ?_, fun z => absurd (by decide) z⟩⟩⟩
    ((repeat' first | refine hP _ ?_ | fail); try dsimp only)
    refine ⟨am_vin rfl, ?_⟩
    ((repeat' first | refine hP _ ?_ | fail); try dsimp only)
    rw [e]
    refine m_X12_max ?_
    rw [f_mx2]
    ((repeat' first | refine hP _ ?_ | fail); try dsimp only)
    refine ⟨am_vin rfl, ?_⟩
    ((repeat' first | refine hP _ ?_ | fail); try dsimp only)
    refine h _ (up _ _) ?_
    funext j
    simp [ob1, am_up_eq, tn_0_0, tn_0_1]
  · have e := nx (by decide)
    ((repeat' first | refine hP _ ?_ | fail); try dsimp only)
    refine ⟨fun z => absurd z (by decide), fun _ => ⟨fun _ => ?_, fun z => absurd (by decide) z⟩⟩
    ((repeat' first | refine hP _ ?_ | fail); try dsimp only)
    rw [e]
    refine ⟨am_vin rfl, ?_⟩
    ((repeat' first | refine hP _ ?_ | fail); try dsimp only)
    refine h _ (up _ _) ?_
    funext j
    simp [ob1, am_up_eq, tn_2_0, tn_2_1]
  · ((repeat' first | refine hP _ ?_ | fail); try dsimp only)
    refine ⟨fun z => absurd z (by decide), fun _ => ⟨fun z => absurd z (by decide), fun _ => ⟨fun z => absurd z (by decide), fun _ => ?_⟩⟩⟩
    ((repeat' first | refine hP _ ?_ | fail); try dsimp only)
    refine ⟨fun z => absurd rfl z, fun _ => ?_⟩
    ((repeat' first | refine hP _ ?_ | fail); try dsimp only)
    refine ⟨am_vin rfl, ?_⟩
    ((repeat' first | refine hP _ ?_ | fail); try dsimp only)
    refine h _ (up _ _) ?_
    funext j
    simp [ob1, am_up_eq, tn_6_0, tn_6_1]
  · ((repeat' first | refine hP _ ?_ | fail); try dsimp only)
    refine ⟨fun z => absurd z (by decide), fun _ => ⟨fun z => absurd z (by decide), fun _ => ⟨fun z => absurd z (by decide), fun _ => ?_⟩⟩⟩
    ((repeat' first | refine hP _ ?_ | fail); try dsimp only)
    refine ⟨fun _ => ?_, fun z => absurd z (by decide)⟩
    ((repeat' first | refine hP _ ?_ | fail); try dsimp only)
    refine ⟨am_vin rfl, ?_⟩
    ((repeat' first | refine hP _ ?_ | fail); try dsimp only)
    refine h _ (up _ _) ?_
    funext j
    simp [ob1, am_up_eq, tn_6_0, tn_6_1]
  · have e := nx (by decide)
    ((repeat' first | refine hP _ ?_ | fail); try dsimp only)
    refine ⟨fun _ => ?_, fun z => absurd (by decide) z⟩
    ((repeat' first | refine hP _ ?_ | fail); try dsimp only)
    refine ⟨am_vin rfl, ?_⟩
    ((repeat' first | refine hP _ ?_ | fail); try dsimp only)
    rw [e]
    refine m_X12_max ?_
    rw [f_mx2]
    ((repeat' first | refine hP _ ?_ | fail); try dsimp only)
    refine ⟨am_vin rfl, ?_⟩
    ((repeat' first | refine hP _ ?_ | fail); try dsimp only)
    refine h _ (up _ _) ?_
    funext j
    simp [ob1, am_up_eq, tn_4_0, tn_4_1]
/-- what reading orders may change -/
def frO (v v' : am_V) : Prop := (∀ k, k ≠ 62 → k ≠ 63 → v' k = v k) ∧ ∀ j, j ≠ 7 → j ≠ 9 → j ≠ 10 → j ≠ 29 → v' 62 j = v 62 j
theorem frO.of {v1 : am_V} (h : frN v v1) : frO v v1 := ⟨fun k h1 _ => h.1 k h1, fun j a b c _ => h.2 j a b c⟩
theorem frO.tr {v1 v2 : am_V} (h1 : frO v v1) (h2 : frO v1 v2) : frO v v2 := ⟨fun k a b => by rw [h2.1 k a b, h1.1 k a b], fun j a b c e => by rw [h2.2 j a b c e, h1.2 j a b c e]⟩
theorem frO.up {v1 : am_V} (h1 : frO v v1) {j : Nat} (hj : j = 7 ∨ j = 9 ∨ j = 10 ∨ j = 29) (x : Int32) : frO v (am_up v1 62 j x) := ⟨fun k hk h2 => by rw [am_up_ne _ _ _ hk, h1.1 k hk h2], fun i a b c e => by rw [am_up_eq, if_neg (fun q => by have := q.2; omega), h1.2 i a b c e]⟩
theorem frO.u63 {v1 v2 : am_V} (h1 : frO v v1) (h2 : ∀ c, c ≠ 63 → v2 c = v1 c) : frO v v2 := ⟨fun k a b => by rw [h2 k b, h1.1 k a b], fun j a b c e => by rw [h2 62 (by decide), h1.2 j a b c e]⟩
theorem rdR.o {v' : am_V} (h : rdR v T n p) (h7 : v' 62 7 = v 62 7) (h8 : v' 62 8 = v 62 8) (h66 : v' 66 = v 66) : rdR v' T n p := by
  unfold rdR
  rw [h7, h8, h66]
  exact h
set_option maxRecDepth 100000 in
set_option maxHeartbeats 4000000 in
theorem m_readsLine {k : Nat} (hk20 : k ≤ 20) (hr : rdR v T n p) (h29 : v 62 29 = nI k) (hE : ∀ (e : Nat × Nat) (v' : am_V), ordL T n k p = .error e → frO v v' → v' 62 9 = flt e → Q (some (.int 0)) (am_sh, v', w)) (hO : ∀ (p1 : Nat) (o : od_O) (v' : am_V), ordL T n k p = .ok (p1, o) → frO v v' → rdR v' T n p1 → v' 62 29 = nI (k + 1) → v' 63 = obO o (v 63) → Q (some (.int 1)) (am_sh, v', w)) : am_run K I am_m (d + 4) 181 [.ref 62] (am_sh, v, w) 0 0 Q := by
  have hn := hr.2.2.1
  have hE0 := hE
  have hO0 := hO
  unfold ordL at hE hO
  refine en_X12_readsLine rfl ?_
  intro P hP
  -- a sign that cannot stand
  have bad : onl whL (cc T n p) = false → P (cd_X12_readsLine.drop 12, [some (.ref 62), some (.int (cc T n p)), none, none], [], (am_sh, v, w), 0, 0) := by
    intro ho
    rw [ho, if_pos rfl] at hE
    ((repeat' first | refine hP _ ?_ | fail); try dsimp only)
    rw [hr.1.1]
    refine m_wrongAt ?_
    ((repeat' first | refine hP _ ?_ | fail); try dsimp only)
    exact ⟨Or.inl rfl, hE (1, p) _ rfl ((frO.of frN.rf).up (by omega) _) (by rw [am_up_eq, if_pos ⟨rfl, rfl⟩]; rfl)⟩
  have good : onl whL (cc T n p) = true → P (cd_X12_readsLine.drop 18, [some (.ref 62), some (.int (cc T n p)), none, none], [], (am_sh, v, w), 0, 0) := by
    intro ho
    have hpl := onl_lt wh_m1 ho
    rw [ho, if_neg (by decide)] at hE hO
    ((repeat' first | refine hP _ ?_ | fail); try dsimp only)
    rw [h29]
    by_cases hk : 20 ≤ k
    · rw [if_pos hk] at hE
      rw [show k = 20 by omega]
      refine ⟨fun c => absurd rfl c, fun _ => ?_⟩
      ((repeat' first | refine hP _ ?_ | fail); try dsimp only)
      rw [hr.1.1]
      refine m_wrongAt ?_
      ((repeat' first | refine hP _ ?_ | fail); try dsimp only)
      exact ⟨Or.inl rfl, hE (4, p) _ rfl ((frO.of frN.rf).up (by omega) _) (by rw [am_up_eq, if_pos ⟨rfl, rfl⟩]; rfl)⟩
    rw [if_neg hk] at hE hO
    refine ⟨fun _ => ?_, fun c => absurd ((nI_eq (b := 20) (by omega) (by omega)).mp c) (by omega)⟩
    ((iterate 13 refine hP _ ?_); try dsimp only)
    rw [h29, nI_1, am_up_eq, if_neg (by decide), hr.1.1, nI_1]
    generalize hu1 : am_up (am_up v 62 29 (nI (k + 1))) 62 7 (nI (p + 1)) = u1
    have f1 : frO v u1 := by
      rw [← hu1]
      exact ((frO.of frN.rf).up (by omega) _).up (by omega) _
    have e7 : u1 62 7 = nI (p + 1) := by rw [← hu1, am_up_eq, if_pos ⟨rfl, rfl⟩]
    have e29 : u1 62 29 = nI (k + 1) := by rw [← hu1, am_up_eq, if_neg (by decide), am_up_eq, if_pos ⟨rfl, rfl⟩]
    have e63 : u1 63 = v 63 := by rw [← hu1, am_up_ne _ _ _ (by decide), am_up_ne _ _ _ (by decide)]
    have r1 : rdR u1 T n (p + 1) := ⟨⟨e7, by rw [f1.2 8 (by decide) (by decide) (by decide) (by decide)]; exact hr.1.2⟩, by rw [f1.1 66 (by decide) (by decide)]; exact hr.2.1, hn, hpl⟩
    clear hu1
    ((repeat' first | refine hP _ ?_ | fail); try dsimp only)
    refine m_here r1 ?_
    have bad2 : onl wtL (cc T n (p + 1)) = false → P (cd_X12_readsLine.drop 58, [some (.ref 62), some (.int (cc T n p)), some (.int (cc T n (p + 1))), none], [], (am_sh, u1, w), 0, 0) := by
      intro ho2
      rw [ho2, if_pos rfl] at hE
      ((repeat' first | refine hP _ ?_ | fail); try dsimp only)
      rw [e7]
      refine m_wrongAt ?_
      ((repeat' first | refine hP _ ?_ | fail); try dsimp only)
      exact ⟨Or.inl rfl, hE (1, p + 1) _ rfl (f1.up (by omega) _) (by rw [am_up_eq, if_pos ⟨rfl, rfl⟩]; rfl)⟩
    have good2 : onl wtL (cc T n (p + 1)) = true → P (cd_X12_readsLine.drop 64, [some (.ref 62), some (.int (cc T n p)), some (.int (cc T n (p + 1))), none], [], (am_sh, u1, w), 0, 0) := by
      intro ho2
      have hpl2 := onl_lt wt_m1 ho2
      rw [ho2, if_neg (by decide)] at hE hO
      ((iterate 7 refine hP _ ?_); try dsimp only)
      rw [e7, nI_1]
      generalize hu2 : am_up u1 62 7 (nI (p + 1 + 1)) = u2
      have f2 : frO v u2 := by
        rw [← hu2]
        exact f1.up (by omega) _
      have y7 : u2 62 7 = nI (p + 2) := by rw [← hu2, am_up_eq, if_pos ⟨rfl, rfl⟩]
      have y29 : u2 62 29 = nI (k + 1) := by rw [← hu2, am_up_eq, if_neg (by decide), e29]
      have y63 : u2 63 = v 63 := by rw [← hu2, am_up_ne _ _ _ (by decide), e63]
      have r2 : rdR u2 T n (p + 2) := ⟨⟨y7, by rw [f2.2 8 (by decide) (by decide) (by decide) (by decide)]; exact hr.1.2⟩, by rw [f2.1 66 (by decide) (by decide)]; exact hr.2.1, hn, hpl2⟩
      clear hu2
      -- it is obeyed
      have fin : ∀ (q1 : Nat) (x : Nat) (u3 : am_V), ordL T n k p = .ok (q1, (cc T n p, cc T n (p + 1), x)) → frO v u3 → u3 62 7 = nI q1 → u3 62 29 = nI (k + 1) → u3 63 = v 63 → ((cc T n (p + 1) = 104 ∨ cc T n (p + 1) = 111) ∨ u3 62 10 = nI x) → P (cd_X12_readsLine.drop 96, [some (.ref 62), some (.int (cc T n p)), some (.int (cc T n (p + 1))), some (.int (nI (p + 2)))], [], (am_sh, u3, w), 0, 0) := by
        intro q1 x u3 hok f3 z7 z29 z63 z10
        obtain ⟨-, hq1, ook⟩ := ordL_ok hok
        have snd : ∀ u4 : am_V, (∀ c, c ≠ 63 → u4 c = u3 c) → u4 63 = obA (cc T n p, cc T n (p + 1), x) (v 63) → P (cd_X12_readsLine.drop 103, [some (.ref 62), some (.int (cc T n p)), some (.int (cc T n (p + 1))), some (.int (nI (p + 2)))], [], (am_sh, u4, w), 0, 0) := by
          intro u4 f4 g4
          have nx : ∀ u5 : am_V, (∀ c, c ≠ 63 → u5 c = u3 c) → u5 63 = obO (cc T n p, cc T n (p + 1), x) (v 63) → P (cd_X12_readsLine.drop 110, [some (.ref 62), some (.int (cc T n p)), some (.int (cc T n (p + 1))), some (.int (nI (p + 2)))], [], (am_sh, u5, w), 0, 0) := by
            intro u5 f5 g5
            have f3' := f3.u63 f5
            ((repeat' first | refine hP _ ?_ | fail); try dsimp only)
            exact ⟨Or.inr rfl, hO0 q1 _ u5 hok f3' ⟨⟨by rw [f5 62 (by decide)]; exact z7, by rw [f3'.2 8 (by decide) (by decide) (by decide) (by decide)]; exact hr.1.2⟩, by rw [f3'.1 66 (by decide) (by decide)]; exact hr.2.1, hn, hq1⟩ (by rw [f5 62 (by decide)]; exact z29) g5⟩
          ((repeat' first | refine hP _ ?_ | fail); try dsimp only)
          refine ⟨fun c => ?_, fun c => ?_⟩
          · exact nx u4 f4 (by rw [g4]; unfold obO; rw [if_pos c])
          · ((repeat' first | refine hP _ ?_ | fail); try dsimp only)
            refine m_obeys_1 (o := (cc T n p, cc T n (p + 1), x)) ook (by rw [f4 62 (by decide)]; exact z10) (fun v' f g => ?_)
            exact nx v' (fun c hc => by rw [f c hc, f4 c hc]) (by rw [g, g4]; unfold obO; rw [if_neg c])
        ((repeat' first | refine hP _ ?_ | fail); try dsimp only)
        refine ⟨fun c => ?_, fun c => ?_⟩
        · exact snd u3 (fun _ _ => rfl) (by rw [z63]; unfold obA; rw [if_pos c])
        · ((repeat' first | refine hP _ ?_ | fail); try dsimp only)
          refine m_obeys_0 (o := (cc T n p, cc T n (p + 1), x)) ook z10 (fun v' f g => ?_)
          exact snd v' f (by rw [g, z63]; unfold obA; rw [if_neg c])
      -- behind the number
      have aft : ∀ (q1 : Nat) (x : Nat) (u3 : am_V), (¬ (cc T n (p + 1) = 98 ∧ 90 < x) → ordL T n k p = .ok (q1, (cc T n p, cc T n (p + 1), x))) → ((cc T n (p + 1) = 98 ∧ 90 < x) → ordL T n k p = .error (3, p + 2)) → frO v u3 → u3 62 7 = nI q1 → u3 62 29 = nI (k + 1) → u3 63 = v 63 → x < 1000 → ((cc T n (p + 1) = 104 ∨ cc T n (p + 1) = 111) ∨ u3 62 10 = nI x) → P (cd_X12_readsLine.drop 84, [some (.ref 62), some (.int (cc T n p)), some (.int (cc T n (p + 1))), some (.int (nI (p + 2)))], [], (am_sh, u3, w), 0, 0) := by
        intro q1 x u3 hok her f3 z7 z29 z63 hx z10
        ((repeat' first | refine hP _ ?_ | fail); try dsimp only)
        refine ⟨fun c => fin q1 x u3 (hok (fun q => c q.1)) f3 z7 z29 z63 z10, fun c => ?_⟩
        have e10 : u3 62 10 = nI x := z10.elim (fun q => by rcases q with q | q <;> exact absurd (c.symm.trans q) (by decide)) id
        ((repeat' first | refine hP _ ?_ | fail); try dsimp only)
        rw [e10]
        refine ⟨fun g => fin q1 x u3 (hok (fun q => absurd ((nI_leI (b := 90) (by omega) (by omega)).mp g) (by omega))) f3 z7 z29 z63 z10, fun g => ?_⟩
        have g : 90 < x := by
          rcases Nat.lt_or_ge 90 x with t | t
          · exact t
          · exact absurd (nI_le (b := 90) t (by omega)) g
        ((repeat' first | refine hP _ ?_ | fail); try dsimp only)
        refine m_wrongAt ?_
        ((repeat' first | refine hP _ ?_ | fail); try dsimp only)
        exact ⟨Or.inl rfl, hE0 (3, p + 2) _ (her ⟨c, g⟩) (f3.up (by omega) _) (by rw [am_up_eq, if_pos ⟨rfl, rfl⟩]; rfl)⟩
      have nonum : (cc T n (p + 1) = 104 ∨ cc T n (p + 1) = 111) → P (cd_X12_readsLine.drop 84, [some (.ref 62), some (.int (cc T n p)), some (.int (cc T n (p + 1))), some (.int (nI (p + 2)))], [], (am_sh, u2, w), 0, 0) := by
        intro q
        refine aft (p + 2) 0 u2 (fun _ => ?_) (fun z => absurd z.2 (by omega)) f2 y7 y29 y63 (by omega) (Or.inl q)
        unfold ordL
        rw [ho, if_neg (by decide), if_neg hk, ho2, if_neg (by decide), if_pos q]
      ((repeat' first | refine hP _ ?_ | fail); try dsimp only)
      rw [y7]
      refine ⟨fun c => nonum (Or.inl c), fun c1 => ?_⟩
      ((repeat' first | refine hP _ ?_ | fail); try dsimp only)
      refine ⟨fun c => nonum (Or.inr c), fun c2 => ?_⟩
      have hno : ¬ (cc T n (p + 1) = 104 ∨ cc T n (p + 1) = 111) := fun q => q.elim c1 c2
      rw [if_neg hno] at hE hO
      ((repeat' first | refine hP _ ?_ | fail); try dsimp only)
      refine m_amount r2 (fun e u3 he f3 h9 => ?_) (fun q1 x u3 he f3 h7 hq1 h10 => ?_)
      · rw [he] at hE
        ((repeat' first | refine hP _ ?_ | fail); try dsimp only)
        refine ⟨fun c => absurd rfl c, fun _ => ?_⟩
        ((repeat' first | refine hP _ ?_ | fail); try dsimp only)
        exact ⟨Or.inl rfl, hE e _ rfl (f2.tr (frO.of f3)) h9⟩
      · obtain ⟨-, -, hx⟩ := numF_ok (by omega) he
        ((repeat' first | refine hP _ ?_ | fail); try dsimp only)
        refine ⟨fun _ => ?_, fun c => absurd c (by decide)⟩
        refine aft q1 x u3 (fun z => ?_) (fun z => ?_) (f2.tr (frO.of f3)) h7 (by rw [f3.2 29 (by decide) (by decide) (by decide)]; exact y29) (by rw [f3.1 63 (by decide)]; exact y63) hx (Or.inr h10)
        · unfold ordL
          rw [ho, if_neg (by decide), if_neg hk, ho2, if_neg (by decide), if_neg hno, he]
          dsimp only
          rw [if_neg z]
        · unfold ordL
          rw [ho, if_neg (by decide), if_neg hk, ho2, if_neg (by decide), if_neg hno, he]
          dsimp only
          rw [if_pos z]
    ((repeat' first | refine hP _ ?_ | fail); try dsimp only)
    refine ⟨fun c => good2 (by rw [c]; decide), fun c1 => ?_⟩
    ((repeat' first | refine hP _ ?_ | fail); try dsimp only)
    refine ⟨fun c => good2 (by rw [c]; decide), fun c2 => ?_⟩
    ((repeat' first | refine hP _ ?_ | fail); try dsimp only)
    refine ⟨fun c => good2 (by rw [c]; decide), fun c3 => ?_⟩
    ((repeat' first | refine hP _ ?_ | fail); try dsimp only)
    refine ⟨fun c => good2 (by rw [c]; decide), fun c4 => ?_⟩
    ((repeat' first | refine hP _ ?_ | fail); try dsimp only)
    refine ⟨fun c => good2 (by rw [c]; decide), fun c5 => ?_⟩
    refine bad2 ?_
    cases h : onl wtL (cc T n (p + 1))
    · rfl
    · rcases wt_5 h with q | q | q | q | q
      · exact absurd q c1
      · exact absurd q c2
      · exact absurd q c3
      · exact absurd q c4
      · exact absurd q c5
  ((repeat' first | refine hP _ ?_ | fail); try dsimp only)
  refine m_here hr ?_
  ((repeat' first | refine hP _ ?_ | fail); try dsimp only)
  refine ⟨fun c => good (by rw [c]; decide), fun c1 => ?_⟩
  ((repeat' first | refine hP _ ?_ | fail); try dsimp only)
  refine ⟨fun c => good (by rw [c]; decide), fun c2 => ?_⟩
  ((repeat' first | refine hP _ ?_ | fail); try dsimp only)
  refine ⟨fun c => good (by rw [c]; decide), fun c3 => ?_⟩
  refine bad ?_
  cases h : onl whL (cc T n p)
  · rfl
  · rcases wh_3 h with q | q | q
    · exact absurd q c1
    · exact absurd q c2
    · exact absurd q c3
end M77
