/-! ===== pairs on the trial: worst, meet, leaves, nearer ===== -/
theorem ap_eq {r : Nat → Int32} (hr : rg r) : (if 0 ≤ r 1 - r 0 then r 1 - r 0 else 0 - (r 1 - r 0)) = bt_ap r := by
  have a0 := (iv_inI (a := 0) (b := 999) rfl rfl).mp hr.1.1
  have a1 := (iv_inI (a := 0) (b := 999) rfl rfl).mp hr.1.2.1
  have e1 : (r 1 - r 0).toInt = (r 1).toInt - (r 0).toInt := ii_sub (by omega) (by omega) (by omega) (by omega)
  have e2 : (r 0 - r 1).toInt = (r 0).toInt - (r 1).toInt := ii_sub (by omega) (by omega) (by omega) (by omega)
  have z0 : (0 : Int32).toInt = 0 := rfl
  unfold bt_ap
  refine Int32.toInt_inj.mp ?_
  by_cases c : 0 ≤ r 1 - r 0
  · have c' := Int32.le_iff_toInt_le.mp c
    rw [z0, e1] at c'
    rw [if_pos c, e1]
    by_cases q : r 0 - r 1 < 0
    · rw [if_pos q, ← Int32.zero_sub, ii_sub (by rw [z0]; omega) (by rw [z0]; omega) (by omega) (by omega), z0, e2]
      omega
    · have q' : ¬ (r 0 - r 1).toInt < (0 : Int32).toInt := fun t => q (Int32.lt_iff_toInt_lt.mpr t)
      rw [z0, e2] at q'
      rw [if_neg q, e2]
      omega
  · have c' : ¬ (0 : Int32).toInt ≤ (r 1 - r 0).toInt := fun t => c (Int32.le_iff_toInt_le.mpr t)
    rw [z0, e1] at c'
    rw [if_neg c, if_neg (fun q => by
      have q' := Int32.lt_iff_toInt_lt.mp q
      rw [z0, e2] at q'
      omega), ii_sub (by rw [z0]; omega) (by rw [z0]; omega) (by omega) (by omega), z0, e1, e2]
    omega
theorem th_arr (r : Nat → Int32) : arrB r - 1 = bt_th r := by
  unfold arrB bt_th
  by_cases a : r 0 = 0 <;> by_cases b : r 1 = 0
  · rw [if_pos a, if_pos b, if_pos ⟨a, b⟩]
    decide
  · rw [if_pos a, if_neg b, if_neg (fun q => b q.2), if_pos a]
    decide
  · rw [if_neg a, if_pos b, if_neg (fun q => a q.1), if_neg a, if_pos b]
    decide
  · rw [if_neg a, if_neg b, if_neg (fun q => a q.1), if_neg a, if_neg b]
    decide
theorem sub1_m1 {t : Int32} : t - 1 = -1 ↔ t = 0 := by
  constructor
  · intro h
    have := congrArg (· + 1) h
    simpa using this
  · intro h
    rw [h]
    decide
def fst' (t : Int32) (r : Nat → Int32) : Int32 := if t = 0 then arrB r else t
theorem fst'_th (t : Int32) (r r' : Nat → Int32) : ac_th r r' (t - 1) = fst' t r' - 1 := by
  unfold ac_th fst'
  by_cases c : t = 0
  · rw [if_pos (sub1_m1.mpr c), if_pos c, th_arr]
  · rw [if_neg (fun q => c (sub1_m1.mp q)), if_neg c]
def mtC (f : (Nat → Int32) → Nat → Int32) (a : Int32) : Nat → (Nat → Int32) → Int32 → Int32 → Int32
  | 0, r, g, t => if r 0 = 0 ∧ r 1 = 0 then (if a = 0 then g else fst' t r - 1) else -2
  | m + 1, r, g, t => if r 0 = 0 ∧ r 1 = 0 then (if a = 0 then g else fst' t r - 1) else if gob r = true then mtC f a m (f r) (g + 1) (fst' t r) else -2
theorem mtC_eq (f : (Nat → Int32) → Nat → Int32) (a : Int32) : ∀ (m : Nat) (r : Nat → Int32) (g t : Int32), mtC f a m r g t = if stN f m r 0 = 0 ∧ stN f m r 1 = 0 then (if a = 0 then acc f ac_1 m r g else acc f ac_th m r (fst' t r - 1)) else -2
  | 0, r, g, t => rfl
  | m + 1, r, g, t => by
    unfold mtC
    by_cases c : r 0 = 0 ∧ r 1 = 0
    · have ng : ¬ goB r := fun q => q.1 c
      rw [if_pos c, stN_no ng, if_pos c, acc_no ng, acc_no ng]
    · rw [if_neg c]
      by_cases g0 : goB r
      · rw [if_pos (gob_iff.mpr g0), mtC_eq f a m (f r) (g + 1) (fst' t r), stN_go g0, acc_go g0, acc_go g0, fst'_th]
        rfl
      · rw [if_neg (fun q => g0 (gob_iff.mp q)), stN_no g0, if_neg c]
def lvC (f : (Nat → Int32) → Nat → Int32) (a : Int32) : Nat → (Nat → Int32) → Int32 → Int32
  | 0, r, g => if lefB r = 0 then -2 else (if a = 0 then lefB r - 1 else g)
  | m + 1, r, g => if lefB r = 0 then (if gob r = true then lvC f a m (f r) (g + 1) else -2) else (if a = 0 then lefB r - 1 else g)
theorem lvC_eq (f : (Nat → Int32) → Nat → Int32) (a : Int32) : ∀ (m : Nat) (r : Nat → Int32) (g : Int32), lvC f a m r g = if lefB (stN f m r) = 0 then -2 else (if a = 0 then lefB (stN f m r) - 1 else acc f ac_1 m r g)
  | 0, r, g => rfl
  | m + 1, r, g => by
    unfold lvC
    by_cases c : lefB r = 0
    · rw [if_pos c]
      by_cases g0 : goB r
      · rw [if_pos (gob_iff.mpr g0), lvC_eq f a m (f r) (g + 1), stN_go g0, acc_go g0]
        rfl
      · rw [if_neg (fun q => g0 (gob_iff.mp q)), stN_no g0, if_pos c]
    · have ng : ¬ goB r := fun q => c (lefB_0.mpr q.2.1)
      rw [if_neg c, stN_no ng, if_neg c, acc_no ng]
section M72
variable {K : am_K} {I : am_I} {d : Nat} {v : am_V} {w : am_X} {Q : Option Value → am_H → Prop} {P : am_C → Prop}
set_option maxRecDepth 100000 in
set_option maxHeartbeats 4000000 in
theorem m_lead33 {r : Nat → Int32} (ht : mt v 33 34 35 r) (h : Q (some (.int (r 1 - r 0))) (am_sh, v, w)) : am_run K I am_m (d + 1) 67 [.ref 33] (am_sh, v, w) 0 0 Q := by
  obtain ⟨⟨e0, e1, -⟩, -⟩ := ht
  refine en_X5_lead rfl ?_
  intro P hP
  ((repeat' first | refine hP _ ?_ | fail); try dsimp only)
  rw [e0, e1]
  exact h
theorem sub_0 {x y : Int32} (h : x - y = 0) : x = y := by
  have := congrArg (· + y) h
  simpa using this
set_option maxRecDepth 100000 in
set_option maxHeartbeats 4000000 in
theorem m_near33 {r : Nat → Int32} (ht : mt v 33 34 35 r) (hr : rg r) (h : Q (some (.int (nI (bt_nr r)))) (am_sh, v, w)) : am_run K I am_m (d + 2) 68 [.ref 33] (am_sh, v, w) 0 0 Q := by
  have a0 := (iv_inI (a := 0) (b := 999) rfl rfl).mp hr.1.1
  have a1 := (iv_inI (a := 0) (b := 999) rfl rfl).mp hr.1.2.1
  have e1 : (r 1 - r 0).toInt = (r 1).toInt - (r 0).toInt := ii_sub (by omega) (by omega) (by omega) (by omega)
  have z0 : (0 : Int32).toInt = 0 := rfl
  unfold bt_nr at h
  refine en_X5_whoIsNearer rfl ?_
  intro P hP
  ((repeat' first | refine hP _ ?_ | fail); try dsimp only)
  refine m_lead33 ht ?_
  ((repeat' first | refine hP _ ?_ | fail); try dsimp only)
  refine ⟨fun c => ?_, fun c => ?_⟩
  · ((repeat' first | refine hP _ ?_ | fail); try dsimp only)
    refine m_lead33 ht ?_
    ((repeat' first | refine hP _ ?_ | fail); try dsimp only)
    have ne : (r 1).toInt ≠ (r 0).toInt := fun q => c (Int32.toInt_inj.mp (by rw [e1, z0]; omega))
    refine ⟨fun c2 => ?_, fun c2 => ?_⟩
    · have c2 := Int32.le_iff_toInt_le.mp c2
      rw [e1, z0] at c2
      rw [if_neg (fun q => by
        have := Int32.lt_iff_toInt_lt.mp q
        omega), if_pos (Int32.lt_iff_toInt_lt.mpr (by omega))] at h
      ((repeat' first | refine hP _ ?_ | fail); try dsimp only)
      exact h
    · have c2 : ¬ (r 1 - r 0).toInt ≤ (0 : Int32).toInt := fun q => c2 (Int32.le_iff_toInt_le.mpr q)
      rw [e1, z0] at c2
      rw [if_pos (Int32.lt_iff_toInt_lt.mpr (by omega))] at h
      ((repeat' first | refine hP _ ?_ | fail); try dsimp only)
      exact h
  · have e := sub_0 c
    rw [e, if_neg Int32.lt_irrefl, if_neg Int32.lt_irrefl] at h
    ((repeat' first | refine hP _ ?_ | fail); try dsimp only)
    exact h
end M72
set_option maxRecDepth 100000 in
set_option maxHeartbeats 4000000 in
theorem pr_worst {L : Nat} {xs : Nat → Int32} (n : Int32) : am_pair L xs 114 197 [.int n] := by
  intro d v w Q hI h
  obtain ⟨ba, bb⟩ := iv_bits hI.1.1 hI.1.2
  obtain ⟨us, z, hl⟩ := lw_is_iff.mp hI.2.2.2.2.1
  refine en_X11_worst rfl ?_
  intro P hP
  ((repeat' first | refine hP _ ?_ | fail); try dsimp only)
  refine m_X11_outside (fun c => ?_) (fun c1 c2 => ?_)
  · ((repeat' first | refine hP _ ?_ | refine ⟨fun c1 => absurd c1 (by decide), fun _ => ?_⟩ | refine ⟨fun _ => ?_, fun c1 => absurd c1 (by decide)⟩ | refine ⟨am_vin rfl, ?_⟩ | refine ⟨fun c1 => ?_, fun c1 => ?_⟩ | refine ⟨Or.inr rfl, ?_⟩ | refine ⟨Or.inl rfl, ?_⟩ | fail); all_goals (try dsimp only at *))
    refine h (-1) v w (fun Q2 h2 => ?_)
    refine en_X12_worst rfl ?_
    intro P2 hP2
    ((repeat' first | refine hP2 _ ?_ | fail); try dsimp only)
    refine m_X12_in0 c ?_
    ((repeat' first | refine hP2 _ ?_ | refine ⟨fun c1 => absurd c1 (by decide), fun _ => ?_⟩ | refine ⟨fun _ => ?_, fun c1 => absurd c1 (by decide)⟩ | refine ⟨am_vin rfl, ?_⟩ | refine ⟨fun c1 => ?_, fun c1 => ?_⟩ | refine ⟨Or.inr rfl, ?_⟩ | refine ⟨Or.inl rfl, ?_⟩ | fail); all_goals (try dsimp only at *))
    exact h2 v w hI
  · obtain ⟨N, hN1, hN, rfl⟩ := am_nat1 c1 c2 (n := 240) rfl
    ((repeat' first | refine hP _ ?_ | fail); try dsimp only)
    refine ⟨fun _ => ?_, fun c => absurd rfl c⟩
    ((repeat' first | refine hP _ ?_ | fail); try dsimp only)
    refine m_X5_become (Or.inr (Or.inr ⟨rfl, rfl, rfl, rfl, rfl, rfl⟩)) ba bb ?_
    have key : ∀ (m g : Nat) (r : Nat → Int32) (u : am_V) (x : Int32), g + m = N → mt u 33 34 35 r → rg r → frC v u → (∀ u' : am_V, frC v u' → Q (some (.int (acc (bt us (v 62 3) (v 62 4)) ac_ap m r x))) (am_sh, u', w)) → P (cd_X11_worst.drop 19, [some (.ref 0), some (.int (nI N)), some (.int x), some (.int (nI g))], [], (am_sh, u, w), 0, 0) := by
      intro m
      induction m with
      | zero =>
        intro g r u x hg hm hr hf h
        ((repeat' first | refine hP _ ?_ | fail); try dsimp only)
        refine ⟨fun _ => ?_, fun c => absurd (nI_le (a := N) (b := g) (by omega) (by omega)) c⟩
        ((repeat' first | refine hP _ ?_ | fail); try dsimp only)
        exact h u hf
      | succ m ih =>
        intro g r u x hg hm hr hf h
        ((repeat' first | refine hP _ ?_ | fail); try dsimp only)
        refine ⟨fun c => absurd c (nI_ge (by omega) (by omega)), fun _ => ?_⟩
        ((repeat' first | refine hP _ ?_ | fail); try dsimp only)
        refine m_go33 hI hl hf hm hr (fun g0 => ?_) (fun g0 u2 f2 m2 r2 => ?_)
        · ((repeat' first | refine hP _ ?_ | fail); try dsimp only)
          refine ⟨fun _ => ?_, fun c => absurd rfl c⟩
          ((repeat' first | refine hP _ ?_ | fail); try dsimp only)
          have e := h u hf
          rw [acc_no g0] at e
          exact e
        · ((repeat' first | refine hP _ ?_ | fail); try dsimp only)
          refine ⟨fun c => absurd c (by decide), fun _ => ?_⟩
          ((repeat' first | refine hP _ ?_ | fail); try dsimp only)
          refine m_lead33 m2 ?_
          ((iterate 5 refine hP _ ?_); try dsimp only)
          rw [ap_eq r2, nI_1]
          refine ih (g + 1) _ u2 _ (by omega) m2 r2 f2 (fun u' f' => ?_)
          have e := h u' f'
          rw [acc_go g0] at e
          exact e
    ((repeat' first | refine hP _ ?_ | fail); try dsimp only)
    refine m_lead33 (f_meet_mt hI.1.1) ?_
    ((iterate 4 refine hP _ ?_); try dsimp only)
    rw [ap_eq hI.1.2]
    refine key N 0 (v 63) _ _ (by omega) (f_meet_mt hI.1.1) hI.1.2 (fun k k1 k2 k3 _ _ => f_meet_o k1 k2 k3) (fun u' f' => ?_)
    refine h _ u' w (fun Q2 h2 => ?_)
    refine en_X12_worst rfl ?_
    intro P2 hP2
    ((repeat' first | refine hP2 _ ?_ | fail); try dsimp only)
    refine m_X12_in1 c1 c2 ?_
    ((repeat' first | refine hP2 _ ?_ | fail); try dsimp only)
    refine ⟨fun _ => ?_, fun c => absurd c (by decide)⟩
    ((repeat' first | refine hP2 _ ?_ | fail); try dsimp only)
    refine m_X12_copies (by decide) ?_
    ((repeat' first | refine hP2 _ ?_ | fail); try dsimp only)
    refine m_goR hN hI hl f' (fun v2 a1 a2 a3 a4 a5 a6 a7 => ?_)
    ((repeat' first | refine hP2 _ ?_ | fail); try dsimp only)
    refine m_X12_copies (by decide) ?_
    ((repeat' first | refine hP2 _ ?_ | fail); try dsimp only)
    exact am_qr a5 rfl (h2 _ w (hI.trial f' a1))
set_option maxRecDepth 100000 in
set_option maxHeartbeats 4000000 in
theorem pr_meet {L : Nat} {xs : Nat → Int32} (n a : Int32) : am_pair L xs 112 195 [.int n, .int a] := by
  intro d v w Q hI h
  obtain ⟨ba, bb⟩ := iv_bits hI.1.1 hI.1.2
  obtain ⟨us, z, hl⟩ := lw_is_iff.mp hI.2.2.2.2.1
  obtain ⟨-, -, mi3, mi4, mi5, mi6⟩ := hI.2.2.1
  refine en_X11_meet rfl ?_
  intro P hP
  ((repeat' first | refine hP _ ?_ | fail); try dsimp only)
  refine m_X11_outside (fun c => ?_) (fun c1 c2 => ?_)
  · ((repeat' first | refine hP _ ?_ | refine ⟨fun c1 => absurd c1 (by decide), fun _ => ?_⟩ | refine ⟨fun _ => ?_, fun c1 => absurd c1 (by decide)⟩ | refine ⟨am_vin rfl, ?_⟩ | refine ⟨fun c1 => ?_, fun c1 => ?_⟩ | refine ⟨Or.inr rfl, ?_⟩ | refine ⟨Or.inl rfl, ?_⟩ | fail); all_goals (try dsimp only at *))
    refine h (-1) v w (fun Q2 h2 => ?_)
    refine en_X12_meet rfl ?_
    intro P2 hP2
    ((repeat' first | refine hP2 _ ?_ | fail); try dsimp only)
    refine m_X12_in0 c ?_
    ((repeat' first | refine hP2 _ ?_ | refine ⟨fun c1 => absurd c1 (by decide), fun _ => ?_⟩ | refine ⟨fun _ => ?_, fun c1 => absurd c1 (by decide)⟩ | refine ⟨am_vin rfl, ?_⟩ | refine ⟨fun c1 => ?_, fun c1 => ?_⟩ | refine ⟨Or.inr rfl, ?_⟩ | refine ⟨Or.inl rfl, ?_⟩ | fail); all_goals (try dsimp only at *))
    exact h2 v w hI
  obtain ⟨N, hN1, hN, rfl⟩ := am_nat1 c1 c2 (n := 240) rfl
  ((repeat' first | refine hP _ ?_ | fail); try dsimp only)
  refine ⟨fun c => absurd rfl c, fun _ => ?_⟩
  ((repeat' first | refine hP _ ?_ | fail); try dsimp only)
  refine m_X11_outside (fun c => ?_) (fun k1 k2 => ?_)
  · ((repeat' first | refine hP _ ?_ | refine ⟨fun c1 => absurd c1 (by decide), fun _ => ?_⟩ | refine ⟨fun _ => ?_, fun c1 => absurd c1 (by decide)⟩ | refine ⟨am_vin rfl, ?_⟩ | refine ⟨fun c1 => ?_, fun c1 => ?_⟩ | refine ⟨Or.inr rfl, ?_⟩ | refine ⟨Or.inl rfl, ?_⟩ | fail); all_goals (try dsimp only at *))
    refine h (-1) v w (fun Q2 h2 => ?_)
    refine en_X12_meet rfl ?_
    intro P2 hP2
    ((repeat' first | refine hP2 _ ?_ | fail); try dsimp only)
    refine m_X12_in1 c1 c2 ?_
    ((repeat' first | refine hP2 _ ?_ | fail); try dsimp only)
    refine ⟨fun c => absurd c (by decide), fun _ => ?_⟩
    ((repeat' first | refine hP2 _ ?_ | fail); try dsimp only)
    refine m_X12_in0 c ?_
    ((repeat' first | refine hP2 _ ?_ | refine ⟨fun c1 => absurd c1 (by decide), fun _ => ?_⟩ | refine ⟨fun _ => ?_, fun c1 => absurd c1 (by decide)⟩ | refine ⟨am_vin rfl, ?_⟩ | refine ⟨fun c1 => ?_, fun c1 => ?_⟩ | refine ⟨Or.inr rfl, ?_⟩ | refine ⟨Or.inl rfl, ?_⟩ | fail); all_goals (try dsimp only at *))
    exact h2 v w hI
  ((repeat' first | refine hP _ ?_ | fail); try dsimp only)
  refine ⟨fun _ => ?_, fun c => absurd rfl c⟩
  ((repeat' first | refine hP _ ?_ | fail); try dsimp only)
  refine m_X5_become (Or.inr (Or.inr ⟨rfl, rfl, rfl, rfl, rfl, rfl⟩)) ba bb ?_
  have key : ∀ (m g : Nat) (r : Nat → Int32) (u : am_V) (t : Int32), g + m = N → mt u 33 34 35 r → rg r → frC v u → (∀ u' : am_V, frC v u' → Q (some (.int (mtC (bt us (v 62 3) (v 62 4)) a m r (nI g) t))) (am_sh, u', w)) → P (cd_X11_meet.drop 21, [some (.ref 0), some (.int (nI N)), some (.int a), some (.int t), some (.int (nI g))], [], (am_sh, u, w), 0, 0) := by
    intro m
    induction m with
    | zero =>
      intro g r u t hg hm hr hf h
      have bod : P (cd_X11_meet.drop 30, [some (.ref 0), some (.int (nI N)), some (.int a), some (.int (fst' t r)), some (.int (nI g))], [], (am_sh, u, w), 0, 0) := by
        unfold mtC at h
        ((repeat' first | refine hP _ ?_ | fail); try dsimp only)
        refine m_haveMet (Or.inr ⟨rfl, rfl, rfl⟩) hm (fun q => ?_) (fun q => ?_)
        · rw [if_pos q] at h
          ((repeat' first | refine hP _ ?_ | fail); try dsimp only)
          refine ⟨fun c => absurd c (by decide), fun _ => ?_⟩
          ((repeat' first | refine hP _ ?_ | fail); try dsimp only)
          refine ⟨fun c => ?_, fun c => ?_⟩
          · rw [if_neg c] at h
            ((repeat' first | refine hP _ ?_ | fail); try dsimp only)
            refine en_X11_whoOfBits rfl ?_
            intro P3 hP3
            ((repeat' first | refine hP3 _ ?_ | fail); try dsimp only)
            ((repeat' first | refine hP _ ?_ | fail); try dsimp only)
            exact h u hf
          · rw [if_pos c] at h
            ((repeat' first | refine hP _ ?_ | fail); try dsimp only)
            exact h u hf
        · rw [if_neg q] at h
          ((repeat' first | refine hP _ ?_ | fail); try dsimp only)
          refine ⟨fun _ => ?_, fun c => absurd rfl c⟩
          ((repeat' first | refine hP _ ?_ | fail); try dsimp only)
          refine m_go33 hI hl hf hm hr (fun g0 => ?_) (fun g0 u2 f2 m2 r2 => ?_)
          · ((repeat' first | refine hP _ ?_ | fail); try dsimp only)
            refine ⟨fun c => absurd rfl c, fun _ => ?_⟩
            ((repeat' first | refine hP _ ?_ | fail); try dsimp only)
            exact h u hf
          · ((repeat' first | refine hP _ ?_ | fail); try dsimp only)
            refine ⟨fun _ => ?_, fun c => absurd c (by decide)⟩
            ((repeat' first | refine hP _ ?_ | fail); try dsimp only)
            rw [nI_1]
            refine ⟨fun _ => ?_, fun c => absurd (nI_lt (a := N) (b := g + 1) (by omega) (by omega)) c⟩
            ((repeat' first | refine hP _ ?_ | fail); try dsimp only)
            exact h u2 f2
      ((repeat' first | refine hP _ ?_ | fail); try dsimp only)
      refine ⟨fun c => absurd c (nI_nlt (a := N) (b := g) (by omega) (by omega)), fun _ => ?_⟩
      ((repeat' first | refine hP _ ?_ | fail); try dsimp only)
      unfold fst' at bod
      refine ⟨fun c => ?_, fun c => ?_⟩
      · rw [if_neg c] at bod
        exact bod
      · rw [if_pos c] at bod
        ((repeat' first | refine hP _ ?_ | fail); try dsimp only)
        refine m_arrived (Or.inr ⟨rfl, rfl, rfl⟩) hm ?_
        ((iterate 1 refine hP _ ?_); try dsimp only)
        exact bod
    | succ m ih =>
      intro g r u t hg hm hr hf h
      have bod : P (cd_X11_meet.drop 30, [some (.ref 0), some (.int (nI N)), some (.int a), some (.int (fst' t r)), some (.int (nI g))], [], (am_sh, u, w), 0, 0) := by
        unfold mtC at h
        ((repeat' first | refine hP _ ?_ | fail); try dsimp only)
        refine m_haveMet (Or.inr ⟨rfl, rfl, rfl⟩) hm (fun q => ?_) (fun q => ?_)
        · rw [if_pos q] at h
          ((repeat' first | refine hP _ ?_ | fail); try dsimp only)
          refine ⟨fun c => absurd c (by decide), fun _ => ?_⟩
          ((repeat' first | refine hP _ ?_ | fail); try dsimp only)
          refine ⟨fun c => ?_, fun c => ?_⟩
          · rw [if_neg c] at h
            ((repeat' first | refine hP _ ?_ | fail); try dsimp only)
            refine en_X11_whoOfBits rfl ?_
            intro P3 hP3
            ((repeat' first | refine hP3 _ ?_ | fail); try dsimp only)
            ((repeat' first | refine hP _ ?_ | fail); try dsimp only)
            exact h u hf
          · rw [if_pos c] at h
            ((repeat' first | refine hP _ ?_ | fail); try dsimp only)
            exact h u hf
        · rw [if_neg q] at h
          ((repeat' first | refine hP _ ?_ | fail); try dsimp only)
          refine ⟨fun _ => ?_, fun c => absurd rfl c⟩
          ((repeat' first | refine hP _ ?_ | fail); try dsimp only)
          refine m_go33 hI hl hf hm hr (fun g0 => ?_) (fun g0 u2 f2 m2 r2 => ?_)
          · rw [if_neg (fun q => g0 (gob_iff.mp q))] at h
            ((repeat' first | refine hP _ ?_ | fail); try dsimp only)
            refine ⟨fun c => absurd rfl c, fun _ => ?_⟩
            ((repeat' first | refine hP _ ?_ | fail); try dsimp only)
            exact h u hf
          · rw [if_pos (gob_iff.mpr g0)] at h
            ((repeat' first | refine hP _ ?_ | fail); try dsimp only)
            refine ⟨fun _ => ?_, fun c => absurd c (by decide)⟩
            ((iterate 2 refine hP _ ?_); try dsimp only)
            rw [nI_1] at h ⊢
            exact ih (g + 1) _ u2 _ (by omega) m2 r2 f2 h
      ((repeat' first | refine hP _ ?_ | fail); try dsimp only)
      refine ⟨fun c => absurd c (nI_nlt (a := N) (b := g) (by omega) (by omega)), fun _ => ?_⟩
      ((repeat' first | refine hP _ ?_ | fail); try dsimp only)
      unfold fst' at bod
      refine ⟨fun c => ?_, fun c => ?_⟩
      · rw [if_neg c] at bod
        exact bod
      · rw [if_pos c] at bod
        ((repeat' first | refine hP _ ?_ | fail); try dsimp only)
        refine m_arrived (Or.inr ⟨rfl, rfl, rfl⟩) hm ?_
        ((iterate 1 refine hP _ ?_); try dsimp only)
        exact bod
  ((iterate 4 refine hP _ ?_); try dsimp only)
  refine key N 0 (v 63) _ 0 (by omega) (f_meet_mt hI.1.1) hI.1.2 (fun k k1 k2 k3 _ _ => f_meet_o k1 k2 k3) (fun u' f' => ?_)
  refine h _ u' w (fun Q2 h2 => ?_)
  rw [mtC_eq, show fst' 0 (v 63) - 1 = bt_th (v 63) from th_arr _] at h2
  refine en_X12_meet rfl ?_
  intro P2 hP2
  ((repeat' first | refine hP2 _ ?_ | fail); try dsimp only)
  refine m_X12_in1 c1 c2 ?_
  ((repeat' first | refine hP2 _ ?_ | fail); try dsimp only)
  refine ⟨fun c => absurd c (by decide), fun _ => ?_⟩
  ((repeat' first | refine hP2 _ ?_ | fail); try dsimp only)
  refine m_X12_in1 k1 k2 ?_
  ((repeat' first | refine hP2 _ ?_ | fail); try dsimp only)
  refine ⟨fun _ => ?_, fun c => absurd c (by decide)⟩
  ((repeat' first | refine hP2 _ ?_ | fail); try dsimp only)
  refine m_X12_copies (by decide) ?_
  ((repeat' first | refine hP2 _ ?_ | fail); try dsimp only)
  refine m_goR hN hI hl f' (fun v2 a1 a2 a3 a4 a5 a6 a7 => ?_)
  have c62 : f_row v2 64 63 14 62 = v2 62 := by
    funext y
    exact if_neg (fun q => absurd q.1 (by decide))
  have g2 := h2 _ w (hI.trial f' a1)
  ((repeat' first | refine hP2 _ ?_ | fail); try dsimp only)
  refine m_metR (fun q => ?_) (fun q => ?_)
  · rw [a2 0 (by decide), a2 1 (by decide)] at q
    rw [if_pos q] at g2
    ((repeat' first | refine hP2 _ ?_ | fail); try dsimp only)
    refine m_X12_copies (by decide) ?_
    ((repeat' first | refine hP2 _ ?_ | fail); try dsimp only)
    refine ⟨fun _ => ?_, fun c => absurd c (by decide)⟩
    ((repeat' first | refine hP2 _ ?_ | fail); try dsimp only)
    refine ⟨fun c => ?_, fun c => ?_⟩
    · rw [if_neg c, ← a4] at g2
      ((repeat' first | refine hP2 _ ?_ | fail); try dsimp only)
      rw [c62]
      exact g2
    · rw [if_pos c, show nI 0 = 0 from rfl, ← a3] at g2
      ((repeat' first | refine hP2 _ ?_ | fail); try dsimp only)
      rw [c62]
      exact g2
  · rw [a2 0 (by decide), a2 1 (by decide)] at q
    rw [if_neg q] at g2
    ((repeat' first | refine hP2 _ ?_ | fail); try dsimp only)
    refine m_X12_copies (by decide) ?_
    ((repeat' first | refine hP2 _ ?_ | fail); try dsimp only)
    refine ⟨fun c => absurd rfl c, fun _ => ?_⟩
    ((repeat' first | refine hP2 _ ?_ | fail); try dsimp only)
    exact g2
set_option maxRecDepth 100000 in
set_option maxHeartbeats 4000000 in
theorem pr_leaves {L : Nat} {xs : Nat → Int32} (n a : Int32) : am_pair L xs 113 196 [.int n, .int a] := by
  intro d v w Q hI h
  obtain ⟨ba, bb⟩ := iv_bits hI.1.1 hI.1.2
  obtain ⟨us, z, hl⟩ := lw_is_iff.mp hI.2.2.2.2.1
  obtain ⟨-, -, mi3, mi4, mi5, mi6⟩ := hI.2.2.1
  refine en_X11_leaves rfl ?_
  intro P hP
  ((repeat' first | refine hP _ ?_ | fail); try dsimp only)
  refine m_X11_outside (fun c => ?_) (fun c1 c2 => ?_)
  · ((repeat' first | refine hP _ ?_ | refine ⟨fun c1 => absurd c1 (by decide), fun _ => ?_⟩ | refine ⟨fun _ => ?_, fun c1 => absurd c1 (by decide)⟩ | refine ⟨am_vin rfl, ?_⟩ | refine ⟨fun c1 => ?_, fun c1 => ?_⟩ | refine ⟨Or.inr rfl, ?_⟩ | refine ⟨Or.inl rfl, ?_⟩ | fail); all_goals (try dsimp only at *))
    refine h (-1) v w (fun Q2 h2 => ?_)
    refine en_X12_leaves rfl ?_
    intro P2 hP2
    ((repeat' first | refine hP2 _ ?_ | fail); try dsimp only)
    refine m_X12_in0 c ?_
    ((repeat' first | refine hP2 _ ?_ | refine ⟨fun c1 => absurd c1 (by decide), fun _ => ?_⟩ | refine ⟨fun _ => ?_, fun c1 => absurd c1 (by decide)⟩ | refine ⟨am_vin rfl, ?_⟩ | refine ⟨fun c1 => ?_, fun c1 => ?_⟩ | refine ⟨Or.inr rfl, ?_⟩ | refine ⟨Or.inl rfl, ?_⟩ | fail); all_goals (try dsimp only at *))
    exact h2 v w hI
  obtain ⟨N, hN1, hN, rfl⟩ := am_nat1 c1 c2 (n := 240) rfl
  ((repeat' first | refine hP _ ?_ | fail); try dsimp only)
  refine ⟨fun c => absurd rfl c, fun _ => ?_⟩
  ((repeat' first | refine hP _ ?_ | fail); try dsimp only)
  refine m_X11_outside (fun c => ?_) (fun k1 k2 => ?_)
  · ((repeat' first | refine hP _ ?_ | refine ⟨fun c1 => absurd c1 (by decide), fun _ => ?_⟩ | refine ⟨fun _ => ?_, fun c1 => absurd c1 (by decide)⟩ | refine ⟨am_vin rfl, ?_⟩ | refine ⟨fun c1 => ?_, fun c1 => ?_⟩ | refine ⟨Or.inr rfl, ?_⟩ | refine ⟨Or.inl rfl, ?_⟩ | fail); all_goals (try dsimp only at *))
    refine h (-1) v w (fun Q2 h2 => ?_)
    refine en_X12_leaves rfl ?_
    intro P2 hP2
    ((repeat' first | refine hP2 _ ?_ | fail); try dsimp only)
    refine m_X12_in1 c1 c2 ?_
    ((repeat' first | refine hP2 _ ?_ | fail); try dsimp only)
    refine ⟨fun c => absurd c (by decide), fun _ => ?_⟩
    ((repeat' first | refine hP2 _ ?_ | fail); try dsimp only)
    refine m_X12_in0 c ?_
    ((repeat' first | refine hP2 _ ?_ | refine ⟨fun c1 => absurd c1 (by decide), fun _ => ?_⟩ | refine ⟨fun _ => ?_, fun c1 => absurd c1 (by decide)⟩ | refine ⟨am_vin rfl, ?_⟩ | refine ⟨fun c1 => ?_, fun c1 => ?_⟩ | refine ⟨Or.inr rfl, ?_⟩ | refine ⟨Or.inl rfl, ?_⟩ | fail); all_goals (try dsimp only at *))
    exact h2 v w hI
  ((repeat' first | refine hP _ ?_ | fail); try dsimp only)
  refine ⟨fun _ => ?_, fun c => absurd rfl c⟩
  ((repeat' first | refine hP _ ?_ | fail); try dsimp only)
  refine m_X5_become (Or.inr (Or.inr ⟨rfl, rfl, rfl, rfl, rfl, rfl⟩)) ba bb ?_
  have key : ∀ (m g : Nat) (r : Nat → Int32) (u : am_V) (l4 : Option Value), g + m = N → mt u 33 34 35 r → rg r → frC v u → (∀ u' : am_V, frC v u' → Q (some (.int (lvC (bt us (v 62 3) (v 62 4)) a m r (nI g)))) (am_sh, u', w)) → am_isL (some (.int (nI g))) = am_isL l4 → P (cd_X11_leaves.drop 19, [some (.ref 0), some (.int (nI N)), some (.int a), some (.int (nI g)), l4], [], (am_sh, u, w), 0, 0) := by
    intro m
    induction m with
    | zero =>
      intro g r u l4 hg hm hr hf h hl4
      unfold lvC at h
      ((repeat' first | refine hP _ ?_ | fail); try dsimp only)
      refine ⟨fun c => absurd c (nI_nlt (a := N) (b := g) (by omega) (by omega)), fun _ => ?_⟩
      ((repeat' first | refine hP _ ?_ | fail); try dsimp only)
      refine m_whoLeft (Or.inr ⟨rfl, rfl, rfl⟩) hm ?_
      ((repeat' first | refine hP _ ?_ | fail); try dsimp only)
      refine ⟨fun q => ?_, fun q => ?_⟩
      · rw [if_pos q] at h
        ((repeat' first | refine hP _ ?_ | fail); try dsimp only)
        refine m_go33 hI hl hf hm hr (fun g0 => ?_) (fun g0 u2 f2 m2 r2 => ?_)
        · ((repeat' first | refine hP _ ?_ | fail); try dsimp only)
          refine ⟨fun c => absurd rfl c, fun _ => ?_⟩
          ((repeat' first | refine hP _ ?_ | fail); try dsimp only)
          exact h u hf
        · ((repeat' first | refine hP _ ?_ | fail); try dsimp only)
          refine ⟨fun _ => ?_, fun c => absurd c (by decide)⟩
          ((repeat' first | refine hP _ ?_ | fail); try dsimp only)
          rw [nI_1]
          refine ⟨fun _ => ?_, fun c => absurd (nI_lt (a := N) (b := g + 1) (by omega) (by omega)) c⟩
          ((repeat' first | refine hP _ ?_ | fail); try dsimp only)
          exact h u2 f2
      · rw [if_neg q] at h
        ((repeat' first | refine hP _ ?_ | fail); try dsimp only)
        refine ⟨fun c => ?_, fun c => ?_⟩
        · rw [if_neg c] at h
          ((repeat' first | refine hP _ ?_ | fail); try dsimp only)
          exact h u hf
        · rw [if_pos c] at h
          ((repeat' first | refine hP _ ?_ | fail); try dsimp only)
          refine en_X11_whoOfBits rfl ?_
          intro P3 hP3
          ((repeat' first | refine hP3 _ ?_ | fail); try dsimp only)
          ((repeat' first | refine hP _ ?_ | fail); try dsimp only)
          exact h u hf
    | succ m ih =>
      intro g r u l4 hg hm hr hf h hl4
      unfold lvC at h
      ((repeat' first | refine hP _ ?_ | fail); try dsimp only)
      refine ⟨fun c => absurd c (nI_nlt (a := N) (b := g) (by omega) (by omega)), fun _ => ?_⟩
      ((repeat' first | refine hP _ ?_ | fail); try dsimp only)
      refine m_whoLeft (Or.inr ⟨rfl, rfl, rfl⟩) hm ?_
      ((repeat' first | refine hP _ ?_ | fail); try dsimp only)
      refine ⟨fun q => ?_, fun q => ?_⟩
      · rw [if_pos q] at h
        ((repeat' first | refine hP _ ?_ | fail); try dsimp only)
        refine m_go33 hI hl hf hm hr (fun g0 => ?_) (fun g0 u2 f2 m2 r2 => ?_)
        · rw [if_neg (fun q => g0 (gob_iff.mp q))] at h
          ((repeat' first | refine hP _ ?_ | fail); try dsimp only)
          refine ⟨fun c => absurd rfl c, fun _ => ?_⟩
          ((repeat' first | refine hP _ ?_ | fail); try dsimp only)
          exact h u hf
        · rw [if_pos (gob_iff.mpr g0)] at h
          ((repeat' first | refine hP _ ?_ | fail); try dsimp only)
          refine ⟨fun _ => ?_, fun c => absurd c (by decide)⟩
          ((iterate 2 refine hP _ ?_); try dsimp only)
          rw [nI_1] at h ⊢
          exact ih (g + 1) _ u2 _ (by omega) m2 r2 f2 h rfl
      · rw [if_neg q] at h
        ((repeat' first | refine hP _ ?_ | fail); try dsimp only)
        refine ⟨fun c => ?_, fun c => ?_⟩
        · rw [if_neg c] at h
          ((repeat' first | refine hP _ ?_ | fail); try dsimp only)
          exact h u hf
        · rw [if_pos c] at h
          ((repeat' first | refine hP _ ?_ | fail); try dsimp only)
          refine en_X11_whoOfBits rfl ?_
          intro P3 hP3
          ((repeat' first | refine hP3 _ ?_ | fail); try dsimp only)
          ((repeat' first | refine hP _ ?_ | fail); try dsimp only)
          exact h u hf
  ((iterate 2 refine hP _ ?_); try dsimp only)
  refine key N 0 (v 63) _ none (by omega) (f_meet_mt hI.1.1) hI.1.2 (fun k k1 k2 k3 _ _ => f_meet_o k1 k2 k3) (fun u' f' => ?_) rfl
  refine h _ u' w (fun Q2 h2 => ?_)
  rw [lvC_eq] at h2
  refine en_X12_leaves rfl ?_
  intro P2 hP2
  ((repeat' first | refine hP2 _ ?_ | fail); try dsimp only)
  refine m_X12_in1 c1 c2 ?_
  ((repeat' first | refine hP2 _ ?_ | fail); try dsimp only)
  refine ⟨fun c => absurd c (by decide), fun _ => ?_⟩
  ((repeat' first | refine hP2 _ ?_ | fail); try dsimp only)
  refine m_X12_in1 k1 k2 ?_
  ((repeat' first | refine hP2 _ ?_ | fail); try dsimp only)
  refine ⟨fun _ => ?_, fun c => absurd c (by decide)⟩
  ((repeat' first | refine hP2 _ ?_ | fail); try dsimp only)
  refine m_X12_copies (by decide) ?_
  ((repeat' first | refine hP2 _ ?_ | fail); try dsimp only)
  refine m_goR hN hI hl f' (fun v2 a1 a2 a3 a4 a5 a6 a7 => ?_)
  have c62 : f_row v2 64 63 14 62 = v2 62 := by
    funext y
    exact if_neg (fun q => absurd q.1 (by decide))
  have c63 : ∀ j, j < 14 → f_row v2 64 63 14 63 j = v 63 j := fun j hj => by
    show (if 63 = 63 ∧ j < 14 then v2 64 j else v2 63 j) = _
    rw [if_pos ⟨rfl, hj⟩, a1.1 64 (by omega)]
    show (if 64 = 64 ∧ j < 14 then u' 63 j else u' 64 j) = _
    rw [if_pos ⟨rfl, hj⟩, f' 63 (by decide) (by decide) (by decide) (by decide) (by decide)]
  have b10 : iv_bit (f_row v2 64 63 14 63 10) := by rw [c63 10 (by decide)]; exact hI.1.2.2.1.2.2.2.2.1
  have b11 : iv_bit (f_row v2 64 63 14 63 11) := by rw [c63 11 (by decide)]; exact hI.1.2.2.1.2.2.2.2.2
  have cl : lefB (f_row v2 64 63 14 63) = lefB (v 63) := by unfold lefB; rw [c63 10 (by decide), c63 11 (by decide)]
  have rs := rg_stN (us := us) mi5.1 mi6.1 N hI.1.2
  have g2 := h2 _ w (hI.trial f' a1)
  ((repeat' first | refine hP2 _ ?_ | fail); try dsimp only)
  refine m_goneR (by rw [a2 10 (by decide)]; exact rs.2.1.2.2.2.2.1) (by rw [a2 11 (by decide)]; exact rs.2.1.2.2.2.2.2) ?_
  rw [show lefB (v2 63) = lefB (stN (bt us (v 62 3) (v 62 4)) N (v 63)) by unfold lefB; rw [a2 10 (by decide), a2 11 (by decide)]]
  ((repeat' first | refine hP2 _ ?_ | fail); try dsimp only)
  refine m_X12_copies (by decide) ?_
  ((repeat' first | refine hP2 _ ?_ | fail); try dsimp only)
  refine ⟨fun q => ?_, fun q => ?_⟩
  · rw [if_neg q] at g2
    ((repeat' first | refine hP2 _ ?_ | fail); try dsimp only)
    refine m_goneR b10 b11 ?_
    rw [cl]
    ((repeat' first | refine hP2 _ ?_ | fail); try dsimp only)
    refine ⟨fun e => ?_, fun e => ?_⟩
    · ((repeat' first | refine hP2 _ ?_ | fail); try dsimp only)
      refine ⟨fun c => ?_, fun c => ?_⟩
      · rw [if_neg c, show nI 0 = 0 from rfl, ← a3] at g2
        ((repeat' first | refine hP2 _ ?_ | fail); try dsimp only)
        rw [c62]
        exact g2
      · rw [if_pos c] at g2
        ((repeat' first | refine hP2 _ ?_ | fail); try dsimp only)
        exact g2
    · have ng : ¬ goB (v 63) := fun q => e (lefB_0.mpr q.2.1)
      rw [stN_no ng, acc_no ng] at g2
      ((repeat' first | refine hP2 _ ?_ | fail); try dsimp only)
      refine ⟨fun c => ?_, fun c => ?_⟩
      · rw [if_neg c] at g2
        ((repeat' first | refine hP2 _ ?_ | fail); try dsimp only)
        exact g2
      · rw [if_pos c] at g2
        ((repeat' first | refine hP2 _ ?_ | fail); try dsimp only)
        refine m_goneR b10 b11 ?_
        rw [cl]
        ((repeat' first | refine hP2 _ ?_ | fail); try dsimp only)
        exact g2
  · rw [if_pos q] at g2
    ((repeat' first | refine hP2 _ ?_ | fail); try dsimp only)
    exact g2
theorem am_04 {k : Int32} (h1 : 0 ≤ k) (h2 : k ≤ 4) : k = 0 ∨ k = 1 ∨ k = 2 ∨ k = 3 ∨ k = 4 := by
  obtain ⟨j, hj, rfl⟩ := am_nat h1 h2 (n := 4) rfl
  rcases (show j = 0 ∨ j = 1 ∨ j = 2 ∨ j = 3 ∨ j = 4 by omega) with rfl | rfl | rfl | rfl | rfl
  · exact Or.inl rfl
  · exact Or.inr (Or.inl rfl)
  · exact Or.inr (Or.inr (Or.inl rfl))
  · exact Or.inr (Or.inr (Or.inr (Or.inl rfl)))
  · exact Or.inr (Or.inr (Or.inr (Or.inr rfl)))
set_option maxRecDepth 100000 in
set_option maxHeartbeats 4000000 in
theorem lp_near_0 {K : am_K} {I : am_I} {d : Nat} {v : am_V} {w : am_X} {Q : Option Value → am_H → Prop} {P : am_C → Prop} {us : List lc_U} {z N : Nat} (hN : N ≤ 240) (hI : INV v) (hl : lw_is v us z) (hP : ∀ c, am_step K I (am_run K I am_m (d + 7)) cd_X11_nearer 0 0 Q P c → P c) : ∀ (m g : Nat) (r : Nat → Int32) (u : am_V) (x : Int32), g + m = N → mt u 33 34 35 r → rg r → frC v u → (∀ u' : am_V, frC v u' → Q (some (.int (acc (bt us (v 62 3) (v 62 4)) (ac_nr 0) m r x))) (am_sh, u', w)) → P (cd_X11_nearer.drop 34, [some (.ref 0), some (.int (nI N)), some (.int 0), some (.ref 34), some (.int (r 4)), some (.int x), some (.int (nI g))], [], (am_sh, u, w), 0, 0) := by
  intro m
  induction m with
  | zero =>
    intro g r u x hg hm hr hf h
    ((repeat' first | refine hP _ ?_ | fail); try dsimp only)
    refine ⟨fun _ => ?_, fun c => absurd (nI_le (a := N) (b := g) (by omega) (by omega)) c⟩
    ((repeat' first | refine hP _ ?_ | fail); try dsimp only)
    exact h u hf
  | succ m ih =>
    intro g r u x hg hm hr hf h
    ((repeat' first | refine hP _ ?_ | fail); try dsimp only)
    refine ⟨fun c => absurd c (nI_ge (by omega) (by omega)), fun _ => ?_⟩
    ((repeat' first | refine hP _ ?_ | fail); try dsimp only)
    refine m_go33 hI hl hf hm hr (fun g0 => ?_) (fun g0 u2 f2 m2 r2 => ?_)
    · ((repeat' first | refine hP _ ?_ | fail); try dsimp only)
      refine ⟨fun _ => ?_, fun c => absurd rfl c⟩
      ((repeat' first | refine hP _ ?_ | fail); try dsimp only)
      have e := h u hf
      rw [acc_no g0] at e
      exact e
    · have m2' := m2
      obtain ⟨⟨-, -, -, -, e4, e5⟩, -⟩ := m2'
      have nx : ∀ y : Int32, y = (ac_nr 0) r (bt us (v 62 3) (v 62 4) r) x → P (cd_X11_nearer.drop 56, [some (.ref 0), some (.int (nI N)), some (.int 0), some (.ref 34), some (.int (r 4)), some (.int y), some (.int (nI g))], [], (am_sh, u2, w), 0, 0) := by
        intro y hy
        ((iterate 5 refine hP _ ?_); try dsimp only)
        rw [e4, nI_1]
        refine ih (g + 1) _ u2 y (by omega) m2 r2 f2 (fun u' f' => ?_)
        have e := h u' f'
        rw [acc_go g0, ← hy] at e
        exact e
      ((repeat' first | refine hP _ ?_ | fail); try dsimp only)
      refine ⟨fun c => absurd c (by decide), fun _ => ?_⟩
      ((repeat' first | refine hP _ ?_ | fail); try dsimp only)
      refine ⟨fun c => absurd c (by decide), fun _ => ?_⟩
      ((repeat' first | refine hP _ ?_ | fail); try dsimp only)
      refine m_near33 m2 r2 ?_
      ((repeat' first | refine hP _ ?_ | fail); try dsimp only)
      have nb : bt_nr (bt us (v 62 3) (v 62 4) r) < 3 := by
        unfold bt_nr
        split
        · decide
        · split <;> decide
      refine ⟨fun c => ?_, fun c => ?_⟩
      · refine nx x ?_
        show x = x + (if bt_nr (bt us (v 62 3) (v 62 4) r) = 0 then 1 else 0)
        rw [if_neg (fun q => c (by rw [q]; rfl)), Int32.add_zero]
      · ((iterate 2 refine hP _ ?_); try dsimp only)
        refine nx (x + 1) ?_
        show x + 1 = x + (if bt_nr (bt us (v 62 3) (v 62 4) r) = 0 then 1 else 0)
        rw [if_pos ((nI_eq (b := 0) (by omega) (by omega)).mp c)]
set_option maxRecDepth 100000 in
set_option maxHeartbeats 4000000 in
theorem lp_near_1 {K : am_K} {I : am_I} {d : Nat} {v : am_V} {w : am_X} {Q : Option Value → am_H → Prop} {P : am_C → Prop} {us : List lc_U} {z N : Nat} (hN : N ≤ 240) (hI : INV v) (hl : lw_is v us z) (hP : ∀ c, am_step K I (am_run K I am_m (d + 7)) cd_X11_nearer 0 0 Q P c → P c) : ∀ (m g : Nat) (r : Nat → Int32) (u : am_V) (x : Int32), g + m = N → mt u 33 34 35 r → rg r → frC v u → (∀ u' : am_V, frC v u' → Q (some (.int (acc (bt us (v 62 3) (v 62 4)) (ac_nr 1) m r x))) (am_sh, u', w)) → P (cd_X11_nearer.drop 34, [some (.ref 0), some (.int (nI N)), some (.int 1), some (.ref 34), some (.int (r 4)), some (.int x), some (.int (nI g))], [], (am_sh, u, w), 0, 0) := by
  intro m
  induction m with
  | zero =>
    intro g r u x hg hm hr hf h
    ((repeat' first | refine hP _ ?_ | fail); try dsimp only)
    refine ⟨fun _ => ?_, fun c => absurd (nI_le (a := N) (b := g) (by omega) (by omega)) c⟩
    ((repeat' first | refine hP _ ?_ | fail); try dsimp only)
    exact h u hf
  | succ m ih =>
    intro g r u x hg hm hr hf h
    ((repeat' first | refine hP _ ?_ | fail); try dsimp only)
    refine ⟨fun c => absurd c (nI_ge (by omega) (by omega)), fun _ => ?_⟩
    ((repeat' first | refine hP _ ?_ | fail); try dsimp only)
    refine m_go33 hI hl hf hm hr (fun g0 => ?_) (fun g0 u2 f2 m2 r2 => ?_)
    · ((repeat' first | refine hP _ ?_ | fail); try dsimp only)
      refine ⟨fun _ => ?_, fun c => absurd rfl c⟩
      ((repeat' first | refine hP _ ?_ | fail); try dsimp only)
      have e := h u hf
      rw [acc_no g0] at e
      exact e
    · have m2' := m2
      obtain ⟨⟨-, -, -, -, e4, e5⟩, -⟩ := m2'
      have nx : ∀ y : Int32, y = (ac_nr 1) r (bt us (v 62 3) (v 62 4) r) x → P (cd_X11_nearer.drop 56, [some (.ref 0), some (.int (nI N)), some (.int 1), some (.ref 34), some (.int (r 4)), some (.int y), some (.int (nI g))], [], (am_sh, u2, w), 0, 0) := by
        intro y hy
        ((iterate 5 refine hP _ ?_); try dsimp only)
        rw [e4, nI_1]
        refine ih (g + 1) _ u2 y (by omega) m2 r2 f2 (fun u' f' => ?_)
        have e := h u' f'
        rw [acc_go g0, ← hy] at e
        exact e
      ((repeat' first | refine hP _ ?_ | fail); try dsimp only)
      refine ⟨fun c => absurd c (by decide), fun _ => ?_⟩
      ((repeat' first | refine hP _ ?_ | fail); try dsimp only)
      refine ⟨fun c => absurd c (by decide), fun _ => ?_⟩
      ((repeat' first | refine hP _ ?_ | fail); try dsimp only)
      refine m_near33 m2 r2 ?_
      ((repeat' first | refine hP _ ?_ | fail); try dsimp only)
      have nb : bt_nr (bt us (v 62 3) (v 62 4) r) < 3 := by
        unfold bt_nr
        split
        · decide
        · split <;> decide
      refine ⟨fun c => ?_, fun c => ?_⟩
      · refine nx x ?_
        show x = x + (if bt_nr (bt us (v 62 3) (v 62 4) r) = 1 then 1 else 0)
        rw [if_neg (fun q => c (by rw [q]; rfl)), Int32.add_zero]
      · ((iterate 2 refine hP _ ?_); try dsimp only)
        refine nx (x + 1) ?_
        show x + 1 = x + (if bt_nr (bt us (v 62 3) (v 62 4) r) = 1 then 1 else 0)
        rw [if_pos ((nI_eq (b := 1) (by omega) (by omega)).mp c)]
set_option maxRecDepth 100000 in
set_option maxHeartbeats 4000000 in
theorem lp_near_2 {K : am_K} {I : am_I} {d : Nat} {v : am_V} {w : am_X} {Q : Option Value → am_H → Prop} {P : am_C → Prop} {us : List lc_U} {z N : Nat} (hN : N ≤ 240) (hI : INV v) (hl : lw_is v us z) (hP : ∀ c, am_step K I (am_run K I am_m (d + 7)) cd_X11_nearer 0 0 Q P c → P c) : ∀ (m g : Nat) (r : Nat → Int32) (u : am_V) (x : Int32), g + m = N → mt u 33 34 35 r → rg r → frC v u → (∀ u' : am_V, frC v u' → Q (some (.int (acc (bt us (v 62 3) (v 62 4)) (ac_nr 2) m r x))) (am_sh, u', w)) → P (cd_X11_nearer.drop 34, [some (.ref 0), some (.int (nI N)), some (.int 2), some (.ref 34), some (.int (r 4)), some (.int x), some (.int (nI g))], [], (am_sh, u, w), 0, 0) := by
  intro m
  induction m with
  | zero =>
    intro g r u x hg hm hr hf h
    ((repeat' first | refine hP _ ?_ | fail); try dsimp only)
    refine ⟨fun _ => ?_, fun c => absurd (nI_le (a := N) (b := g) (by omega) (by omega)) c⟩
    ((repeat' first | refine hP _ ?_ | fail); try dsimp only)
    exact h u hf
  | succ m ih =>
    intro g r u x hg hm hr hf h
    ((repeat' first | refine hP _ ?_ | fail); try dsimp only)
    refine ⟨fun c => absurd c (nI_ge (by omega) (by omega)), fun _ => ?_⟩
    ((repeat' first | refine hP _ ?_ | fail); try dsimp only)
    refine m_go33 hI hl hf hm hr (fun g0 => ?_) (fun g0 u2 f2 m2 r2 => ?_)
    · ((repeat' first | refine hP _ ?_ | fail); try dsimp only)
      refine ⟨fun _ => ?_, fun c => absurd rfl c⟩
      ((repeat' first | refine hP _ ?_ | fail); try dsimp only)
      have e := h u hf
      rw [acc_no g0] at e
      exact e
    · have m2' := m2
      obtain ⟨⟨-, -, -, -, e4, e5⟩, -⟩ := m2'
      have nx : ∀ y : Int32, y = (ac_nr 2) r (bt us (v 62 3) (v 62 4) r) x → P (cd_X11_nearer.drop 56, [some (.ref 0), some (.int (nI N)), some (.int 2), some (.ref 34), some (.int (r 4)), some (.int y), some (.int (nI g))], [], (am_sh, u2, w), 0, 0) := by
        intro y hy
        ((iterate 5 refine hP _ ?_); try dsimp only)
        rw [e4, nI_1]
        refine ih (g + 1) _ u2 y (by omega) m2 r2 f2 (fun u' f' => ?_)
        have e := h u' f'
        rw [acc_go g0, ← hy] at e
        exact e
      ((repeat' first | refine hP _ ?_ | fail); try dsimp only)
      refine ⟨fun c => absurd c (by decide), fun _ => ?_⟩
      ((repeat' first | refine hP _ ?_ | fail); try dsimp only)
      refine ⟨fun c => absurd c (by decide), fun _ => ?_⟩
      ((repeat' first | refine hP _ ?_ | fail); try dsimp only)
      refine m_near33 m2 r2 ?_
      ((repeat' first | refine hP _ ?_ | fail); try dsimp only)
      have nb : bt_nr (bt us (v 62 3) (v 62 4) r) < 3 := by
        unfold bt_nr
        split
        · decide
        · split <;> decide
      refine ⟨fun c => ?_, fun c => ?_⟩
      · refine nx x ?_
        show x = x + (if bt_nr (bt us (v 62 3) (v 62 4) r) = 2 then 1 else 0)
        rw [if_neg (fun q => c (by rw [q]; rfl)), Int32.add_zero]
      · ((iterate 2 refine hP _ ?_); try dsimp only)
        refine nx (x + 1) ?_
        show x + 1 = x + (if bt_nr (bt us (v 62 3) (v 62 4) r) = 2 then 1 else 0)
        rw [if_pos ((nI_eq (b := 2) (by omega) (by omega)).mp c)]
set_option maxRecDepth 100000 in
set_option maxHeartbeats 4000000 in
theorem lp_near_3 {K : am_K} {I : am_I} {d : Nat} {v : am_V} {w : am_X} {Q : Option Value → am_H → Prop} {P : am_C → Prop} {us : List lc_U} {z N : Nat} (hN : N ≤ 240) (hI : INV v) (hl : lw_is v us z) (hP : ∀ c, am_step K I (am_run K I am_m (d + 7)) cd_X11_nearer 0 0 Q P c → P c) : ∀ (m g : Nat) (r : Nat → Int32) (u : am_V) (x : Int32), g + m = N → mt u 33 34 35 r → rg r → frC v u → (∀ u' : am_V, frC v u' → Q (some (.int (acc (bt us (v 62 3) (v 62 4)) (ac_of 0) m r x))) (am_sh, u', w)) → P (cd_X11_nearer.drop 34, [some (.ref 0), some (.int (nI N)), some (.int 3), some (.ref 34), some (.int (r 4)), some (.int x), some (.int (nI g))], [], (am_sh, u, w), 0, 0) := by
  intro m
  induction m with
  | zero =>
    intro g r u x hg hm hr hf h
    ((repeat' first | refine hP _ ?_ | fail); try dsimp only)
    refine ⟨fun _ => ?_, fun c => absurd (nI_le (a := N) (b := g) (by omega) (by omega)) c⟩
    ((repeat' first | refine hP _ ?_ | fail); try dsimp only)
    exact h u hf
  | succ m ih =>
    intro g r u x hg hm hr hf h
    ((repeat' first | refine hP _ ?_ | fail); try dsimp only)
    refine ⟨fun c => absurd c (nI_ge (by omega) (by omega)), fun _ => ?_⟩
    ((repeat' first | refine hP _ ?_ | fail); try dsimp only)
    refine m_go33 hI hl hf hm hr (fun g0 => ?_) (fun g0 u2 f2 m2 r2 => ?_)
    · ((repeat' first | refine hP _ ?_ | fail); try dsimp only)
      refine ⟨fun _ => ?_, fun c => absurd rfl c⟩
      ((repeat' first | refine hP _ ?_ | fail); try dsimp only)
      have e := h u hf
      rw [acc_no g0] at e
      exact e
    · have m2' := m2
      obtain ⟨⟨-, -, -, -, e4, e5⟩, -⟩ := m2'
      have nx : ∀ y : Int32, y = (ac_of 0) r (bt us (v 62 3) (v 62 4) r) x → P (cd_X11_nearer.drop 56, [some (.ref 0), some (.int (nI N)), some (.int 3), some (.ref 34), some (.int (r 4)), some (.int y), some (.int (nI g))], [], (am_sh, u2, w), 0, 0) := by
        intro y hy
        ((iterate 5 refine hP _ ?_); try dsimp only)
        rw [e4, nI_1]
        refine ih (g + 1) _ u2 y (by omega) m2 r2 f2 (fun u' f' => ?_)
        have e := h u' f'
        rw [acc_go g0, ← hy] at e
        exact e
      ((repeat' first | refine hP _ ?_ | fail); try dsimp only)
      refine ⟨fun c => absurd c (by decide), fun _ => ?_⟩
      ((repeat' first | refine hP _ ?_ | fail); try dsimp only)
      refine ⟨fun _ => ?_, fun c => absurd (by decide) c⟩
      ((repeat' first | refine hP _ ?_ | fail); try dsimp only)
      rw [e4]
      refine ⟨fun c => ?_, fun c => ?_⟩
      · refine nx x ?_
        show x = x + (if r 4 < bt us (v 62 3) (v 62 4) r 4 then 1 else 0)
        rw [if_neg (Int32.not_lt.mpr c), Int32.add_zero]
      · ((iterate 1 refine hP _ ?_); try dsimp only)
        refine nx (x + 1) ?_
        show x + 1 = x + (if r 4 < bt us (v 62 3) (v 62 4) r 4 then 1 else 0)
        rw [if_pos (Int32.not_le.mp c)]
set_option maxRecDepth 100000 in
set_option maxHeartbeats 4000000 in
theorem lp_near_4 {K : am_K} {I : am_I} {d : Nat} {v : am_V} {w : am_X} {Q : Option Value → am_H → Prop} {P : am_C → Prop} {us : List lc_U} {z N : Nat} (hN : N ≤ 240) (hI : INV v) (hl : lw_is v us z) (hP : ∀ c, am_step K I (am_run K I am_m (d + 7)) cd_X11_nearer 0 0 Q P c → P c) : ∀ (m g : Nat) (r : Nat → Int32) (u : am_V) (x : Int32), g + m = N → mt u 33 34 35 r → rg r → frC v u → (∀ u' : am_V, frC v u' → Q (some (.int (acc (bt us (v 62 3) (v 62 4)) (ac_of 1) m r x))) (am_sh, u', w)) → P (cd_X11_nearer.drop 34, [some (.ref 0), some (.int (nI N)), some (.int 4), some (.ref 35), some (.int (r 5)), some (.int x), some (.int (nI g))], [], (am_sh, u, w), 0, 0) := by
  intro m
  induction m with
  | zero =>
    intro g r u x hg hm hr hf h
    ((repeat' first | refine hP _ ?_ | fail); try dsimp only)
    refine ⟨fun _ => ?_, fun c => absurd (nI_le (a := N) (b := g) (by omega) (by omega)) c⟩
    ((repeat' first | refine hP _ ?_ | fail); try dsimp only)
    exact h u hf
  | succ m ih =>
    intro g r u x hg hm hr hf h
    ((repeat' first | refine hP _ ?_ | fail); try dsimp only)
    refine ⟨fun c => absurd c (nI_ge (by omega) (by omega)), fun _ => ?_⟩
    ((repeat' first | refine hP _ ?_ | fail); try dsimp only)
    refine m_go33 hI hl hf hm hr (fun g0 => ?_) (fun g0 u2 f2 m2 r2 => ?_)
    · ((repeat' first | refine hP _ ?_ | fail); try dsimp only)
      refine ⟨fun _ => ?_, fun c => absurd rfl c⟩
      ((repeat' first | refine hP _ ?_ | fail); try dsimp only)
      have e := h u hf
      rw [acc_no g0] at e
      exact e
    · have m2' := m2
      obtain ⟨⟨-, -, -, -, e4, e5⟩, -⟩ := m2'
      have nx : ∀ y : Int32, y = (ac_of 1) r (bt us (v 62 3) (v 62 4) r) x → P (cd_X11_nearer.drop 56, [some (.ref 0), some (.int (nI N)), some (.int 4), some (.ref 35), some (.int (r 5)), some (.int y), some (.int (nI g))], [], (am_sh, u2, w), 0, 0) := by
        intro y hy
        ((iterate 5 refine hP _ ?_); try dsimp only)
        rw [e5, nI_1]
        refine ih (g + 1) _ u2 y (by omega) m2 r2 f2 (fun u' f' => ?_)
        have e := h u' f'
        rw [acc_go g0, ← hy] at e
        exact e
      ((repeat' first | refine hP _ ?_ | fail); try dsimp only)
      refine ⟨fun c => absurd c (by decide), fun _ => ?_⟩
      ((repeat' first | refine hP _ ?_ | fail); try dsimp only)
      refine ⟨fun _ => ?_, fun c => absurd (by decide) c⟩
      ((repeat' first | refine hP _ ?_ | fail); try dsimp only)
      rw [e5]
      refine ⟨fun c => ?_, fun c => ?_⟩
      · refine nx x ?_
        show x = x + (if r 5 < bt us (v 62 3) (v 62 4) r 5 then 1 else 0)
        rw [if_neg (Int32.not_lt.mpr c), Int32.add_zero]
      · ((iterate 1 refine hP _ ?_); try dsimp only)
        refine nx (x + 1) ?_
        show x + 1 = x + (if r 5 < bt us (v 62 3) (v 62 4) r 5 then 1 else 0)
        rw [if_pos (Int32.not_le.mp c)]
set_option maxRecDepth 100000 in
set_option maxHeartbeats 4000000 in
theorem pr_nearer {L : Nat} {xs : Nat → Int32} (n a : Int32) : am_pair L xs 115 198 [.int n, .int a] := by
  intro d v w Q hI h
  obtain ⟨ba, bb⟩ := iv_bits hI.1.1 hI.1.2
  obtain ⟨us, z, hl⟩ := lw_is_iff.mp hI.2.2.2.2.1
  obtain ⟨-, -, mi3, mi4, mi5, mi6⟩ := hI.2.2.1
  refine en_X11_nearer rfl ?_
  intro P hP
  ((repeat' first | refine hP _ ?_ | fail); try dsimp only)
  refine m_X11_outside (fun c => ?_) (fun c1 c2 => ?_)
  · ((repeat' first | refine hP _ ?_ | refine ⟨fun c1 => absurd c1 (by decide), fun _ => ?_⟩ | refine ⟨fun _ => ?_, fun c1 => absurd c1 (by decide)⟩ | refine ⟨am_vin rfl, ?_⟩ | refine ⟨fun c1 => ?_, fun c1 => ?_⟩ | refine ⟨Or.inr rfl, ?_⟩ | refine ⟨Or.inl rfl, ?_⟩ | fail); all_goals (try dsimp only at *))
    refine h (-1) v w (fun Q2 h2 => ?_)
    refine en_X12_nearer rfl ?_
    intro P2 hP2
    ((repeat' first | refine hP2 _ ?_ | fail); try dsimp only)
    refine m_X12_in0 c ?_
    ((repeat' first | refine hP2 _ ?_ | refine ⟨fun c1 => absurd c1 (by decide), fun _ => ?_⟩ | refine ⟨fun _ => ?_, fun c1 => absurd c1 (by decide)⟩ | refine ⟨am_vin rfl, ?_⟩ | refine ⟨fun c1 => ?_, fun c1 => ?_⟩ | refine ⟨Or.inr rfl, ?_⟩ | refine ⟨Or.inl rfl, ?_⟩ | fail); all_goals (try dsimp only at *))
    exact h2 v w hI
  obtain ⟨N, hN1, hN, rfl⟩ := am_nat1 c1 c2 (n := 240) rfl
  ((repeat' first | refine hP _ ?_ | fail); try dsimp only)
  refine ⟨fun c => absurd rfl c, fun _ => ?_⟩
  ((repeat' first | refine hP _ ?_ | fail); try dsimp only)
  refine m_X11_outside (fun c => ?_) (fun k1 k2 => ?_)
  · ((repeat' first | refine hP _ ?_ | refine ⟨fun c1 => absurd c1 (by decide), fun _ => ?_⟩ | refine ⟨fun _ => ?_, fun c1 => absurd c1 (by decide)⟩ | refine ⟨am_vin rfl, ?_⟩ | refine ⟨fun c1 => ?_, fun c1 => ?_⟩ | refine ⟨Or.inr rfl, ?_⟩ | refine ⟨Or.inl rfl, ?_⟩ | fail); all_goals (try dsimp only at *))
    refine h (-1) v w (fun Q2 h2 => ?_)
    refine en_X12_nearer rfl ?_
    intro P2 hP2
    ((repeat' first | refine hP2 _ ?_ | fail); try dsimp only)
    refine m_X12_in1 c1 c2 ?_
    ((repeat' first | refine hP2 _ ?_ | fail); try dsimp only)
    refine ⟨fun c => absurd c (by decide), fun _ => ?_⟩
    ((repeat' first | refine hP2 _ ?_ | fail); try dsimp only)
    refine m_X12_in0 c ?_
    ((repeat' first | refine hP2 _ ?_ | refine ⟨fun c1 => absurd c1 (by decide), fun _ => ?_⟩ | refine ⟨fun _ => ?_, fun c1 => absurd c1 (by decide)⟩ | refine ⟨am_vin rfl, ?_⟩ | refine ⟨fun c1 => ?_, fun c1 => ?_⟩ | refine ⟨Or.inr rfl, ?_⟩ | refine ⟨Or.inl rfl, ?_⟩ | fail); all_goals (try dsimp only at *))
    exact h2 v w hI
  ((repeat' first | refine hP _ ?_ | fail); try dsimp only)
  refine ⟨fun _ => ?_, fun c => absurd rfl c⟩
  ((repeat' first | refine hP _ ?_ | fail); try dsimp only)
  refine m_X5_become (Or.inr (Or.inr ⟨rfl, rfl, rfl, rfl, rfl, rfl⟩)) ba bb ?_
  rcases am_04 k1 k2 with rfl | rfl | rfl | rfl | rfl
  · ((repeat' first | refine hP _ ?_ | fail); try dsimp only)
    refine ⟨fun _ => ?_, fun c => absurd c (by decide)⟩
    ((repeat' first | refine hP _ ?_ | fail); try dsimp only)
    refine m_X5_kingOf (Or.inr ⟨rfl, rfl, rfl⟩) (fun c => absurd c (by decide)) (fun _ => ?_)
    ((iterate 8 refine hP _ ?_); try dsimp only)
    have m0 := f_meet_mt hI.1.1
    rw [m0.1.2.2.2.2.1]
    refine lp_near_0 hN hI hl hP N 0 (v 63) _ 0 (by omega) m0 hI.1.2 (fun k k1 k2 k3 _ _ => f_meet_o k1 k2 k3) (fun u' f' => ?_)
    refine h _ u' w (fun Q2 h2 => ?_)
    refine en_X12_nearer rfl ?_
    intro P2 hP2
    ((repeat' first | refine hP2 _ ?_ | fail); try dsimp only)
    refine m_X12_in1 c1 c2 ?_
    ((repeat' first | refine hP2 _ ?_ | fail); try dsimp only)
    refine ⟨fun c => absurd c (by decide), fun _ => ?_⟩
    ((repeat' first | refine hP2 _ ?_ | fail); try dsimp only)
    refine m_X12_in1 k1 k2 ?_
    ((repeat' first | refine hP2 _ ?_ | fail); try dsimp only)
    refine ⟨fun _ => ?_, fun c => absurd c (by decide)⟩
    ((repeat' first | refine hP2 _ ?_ | fail); try dsimp only)
    refine m_X12_copies (by decide) ?_
    ((repeat' first | refine hP2 _ ?_ | fail); try dsimp only)
    refine m_goR hN hI hl f' (fun v2 a1 a2 a3 a4 a5 a6 a7 => ?_)
    have cc : ∀ k, k ≠ 63 → f_row v2 64 63 14 k = v2 k := fun k hk => by
      funext y
      exact if_neg (fun q => hk q.1)
    ((repeat' first | refine hP2 _ ?_ | fail); try dsimp only)
    refine m_X12_copies (by decide) ?_
    ((repeat' first | refine hP2 _ ?_ | fail); try dsimp only)
    refine ⟨fun c => absurd c (by decide), fun _ => ?_⟩
    ((repeat' first | refine hP2 _ ?_ | fail); try dsimp only)
    refine ⟨am_vin (by decide), ?_⟩
    ((repeat' first | refine hP2 _ ?_ | fail); try dsimp only)
    rw [tn_0, cc 85 (by decide)]
    exact am_qr (a6 0 (by decide)) rfl (h2 _ w (hI.trial f' a1))
  · ((repeat' first | refine hP _ ?_ | fail); try dsimp only)
    refine ⟨fun _ => ?_, fun c => absurd c (by decide)⟩
    ((repeat' first | refine hP _ ?_ | fail); try dsimp only)
    refine m_X5_kingOf (Or.inr ⟨rfl, rfl, rfl⟩) (fun c => absurd c (by decide)) (fun _ => ?_)
    ((iterate 8 refine hP _ ?_); try dsimp only)
    have m0 := f_meet_mt hI.1.1
    rw [m0.1.2.2.2.2.1]
    refine lp_near_1 hN hI hl hP N 0 (v 63) _ 0 (by omega) m0 hI.1.2 (fun k k1 k2 k3 _ _ => f_meet_o k1 k2 k3) (fun u' f' => ?_)
    refine h _ u' w (fun Q2 h2 => ?_)
    refine en_X12_nearer rfl ?_
    intro P2 hP2
    ((repeat' first | refine hP2 _ ?_ | fail); try dsimp only)
    refine m_X12_in1 c1 c2 ?_
    ((repeat' first | refine hP2 _ ?_ | fail); try dsimp only)
    refine ⟨fun c => absurd c (by decide), fun _ => ?_⟩
    ((repeat' first | refine hP2 _ ?_ | fail); try dsimp only)
    refine m_X12_in1 k1 k2 ?_
    ((repeat' first | refine hP2 _ ?_ | fail); try dsimp only)
    refine ⟨fun _ => ?_, fun c => absurd c (by decide)⟩
    ((repeat' first | refine hP2 _ ?_ | fail); try dsimp only)
    refine m_X12_copies (by decide) ?_
    ((repeat' first | refine hP2 _ ?_ | fail); try dsimp only)
    refine m_goR hN hI hl f' (fun v2 a1 a2 a3 a4 a5 a6 a7 => ?_)
    have cc : ∀ k, k ≠ 63 → f_row v2 64 63 14 k = v2 k := fun k hk => by
      funext y
      exact if_neg (fun q => hk q.1)
    ((repeat' first | refine hP2 _ ?_ | fail); try dsimp only)
    refine m_X12_copies (by decide) ?_
    ((repeat' first | refine hP2 _ ?_ | fail); try dsimp only)
    refine ⟨fun c => absurd c (by decide), fun _ => ?_⟩
    ((repeat' first | refine hP2 _ ?_ | fail); try dsimp only)
    refine ⟨am_vin (by decide), ?_⟩
    ((repeat' first | refine hP2 _ ?_ | fail); try dsimp only)
    rw [tn_1, cc 85 (by decide)]
    exact am_qr (a6 1 (by decide)) rfl (h2 _ w (hI.trial f' a1))
  · ((repeat' first | refine hP _ ?_ | fail); try dsimp only)
    refine ⟨fun _ => ?_, fun c => absurd c (by decide)⟩
    ((repeat' first | refine hP _ ?_ | fail); try dsimp only)
    refine m_X5_kingOf (Or.inr ⟨rfl, rfl, rfl⟩) (fun c => absurd c (by decide)) (fun _ => ?_)
    ((iterate 8 refine hP _ ?_); try dsimp only)
    have m0 := f_meet_mt hI.1.1
    rw [m0.1.2.2.2.2.1]
    refine lp_near_2 hN hI hl hP N 0 (v 63) _ 0 (by omega) m0 hI.1.2 (fun k k1 k2 k3 _ _ => f_meet_o k1 k2 k3) (fun u' f' => ?_)
    refine h _ u' w (fun Q2 h2 => ?_)
    refine en_X12_nearer rfl ?_
    intro P2 hP2
    ((repeat' first | refine hP2 _ ?_ | fail); try dsimp only)
    refine m_X12_in1 c1 c2 ?_
    ((repeat' first | refine hP2 _ ?_ | fail); try dsimp only)
    refine ⟨fun c => absurd c (by decide), fun _ => ?_⟩
    ((repeat' first | refine hP2 _ ?_ | fail); try dsimp only)
    refine m_X12_in1 k1 k2 ?_
    ((repeat' first | refine hP2 _ ?_ | fail); try dsimp only)
    refine ⟨fun _ => ?_, fun c => absurd c (by decide)⟩
    ((repeat' first | refine hP2 _ ?_ | fail); try dsimp only)
    refine m_X12_copies (by decide) ?_
    ((repeat' first | refine hP2 _ ?_ | fail); try dsimp only)
    refine m_goR hN hI hl f' (fun v2 a1 a2 a3 a4 a5 a6 a7 => ?_)
    have cc : ∀ k, k ≠ 63 → f_row v2 64 63 14 k = v2 k := fun k hk => by
      funext y
      exact if_neg (fun q => hk q.1)
    ((repeat' first | refine hP2 _ ?_ | fail); try dsimp only)
    refine m_X12_copies (by decide) ?_
    ((repeat' first | refine hP2 _ ?_ | fail); try dsimp only)
    refine ⟨fun c => absurd c (by decide), fun _ => ?_⟩
    ((repeat' first | refine hP2 _ ?_ | fail); try dsimp only)
    refine ⟨am_vin (by decide), ?_⟩
    ((repeat' first | refine hP2 _ ?_ | fail); try dsimp only)
    rw [tn_2, cc 85 (by decide)]
    exact am_qr (a6 2 (by decide)) rfl (h2 _ w (hI.trial f' a1))
  · ((repeat' first | refine hP _ ?_ | fail); try dsimp only)
    refine ⟨fun _ => ?_, fun c => absurd c (by decide)⟩
    ((repeat' first | refine hP _ ?_ | fail); try dsimp only)
    refine m_X5_kingOf (Or.inr ⟨rfl, rfl, rfl⟩) (fun c => absurd c (by decide)) (fun _ => ?_)
    ((iterate 8 refine hP _ ?_); try dsimp only)
    have m0 := f_meet_mt hI.1.1
    rw [m0.1.2.2.2.2.1]
    refine lp_near_3 hN hI hl hP N 0 (v 63) _ 0 (by omega) m0 hI.1.2 (fun k k1 k2 k3 _ _ => f_meet_o k1 k2 k3) (fun u' f' => ?_)
    refine h _ u' w (fun Q2 h2 => ?_)
    refine en_X12_nearer rfl ?_
    intro P2 hP2
    ((repeat' first | refine hP2 _ ?_ | fail); try dsimp only)
    refine m_X12_in1 c1 c2 ?_
    ((repeat' first | refine hP2 _ ?_ | fail); try dsimp only)
    refine ⟨fun c => absurd c (by decide), fun _ => ?_⟩
    ((repeat' first | refine hP2 _ ?_ | fail); try dsimp only)
    refine m_X12_in1 k1 k2 ?_
    ((repeat' first | refine hP2 _ ?_ | fail); try dsimp only)
    refine ⟨fun _ => ?_, fun c => absurd c (by decide)⟩
    ((repeat' first | refine hP2 _ ?_ | fail); try dsimp only)
    refine m_X12_copies (by decide) ?_
    ((repeat' first | refine hP2 _ ?_ | fail); try dsimp only)
    refine m_goR hN hI hl f' (fun v2 a1 a2 a3 a4 a5 a6 a7 => ?_)
    have cc : ∀ k, k ≠ 63 → f_row v2 64 63 14 k = v2 k := fun k hk => by
      funext y
      exact if_neg (fun q => hk q.1)
    ((repeat' first | refine hP2 _ ?_ | fail); try dsimp only)
    refine m_X12_copies (by decide) ?_
    ((repeat' first | refine hP2 _ ?_ | fail); try dsimp only)
    refine ⟨fun _ => ?_, fun c => absurd (by decide) c⟩
    ((repeat' first | refine hP2 _ ?_ | fail); try dsimp only)
    refine ⟨am_vin (by decide), ?_⟩
    ((repeat' first | refine hP2 _ ?_ | fail); try dsimp only)
    rw [show Int32.toNatClampNeg (3 - 3) = 0 by decide, cc 84 (by decide)]
    exact am_qr (a7 0 (by decide)) rfl (h2 _ w (hI.trial f' a1))
  · ((repeat' first | refine hP _ ?_ | fail); try dsimp only)
    refine ⟨fun c => absurd rfl c, fun _ => ?_⟩
    ((repeat' first | refine hP _ ?_ | fail); try dsimp only)
    refine m_X5_kingOf (Or.inr ⟨rfl, rfl, rfl⟩) (fun _ => ?_) (fun c => absurd (by decide) c)
    ((iterate 8 refine hP _ ?_); try dsimp only)
    have m0 := f_meet_mt hI.1.1
    rw [m0.1.2.2.2.2.2]
    refine lp_near_4 hN hI hl hP N 0 (v 63) _ 0 (by omega) m0 hI.1.2 (fun k k1 k2 k3 _ _ => f_meet_o k1 k2 k3) (fun u' f' => ?_)
    refine h _ u' w (fun Q2 h2 => ?_)
    refine en_X12_nearer rfl ?_
    intro P2 hP2
    ((repeat' first | refine hP2 _ ?_ | fail); try dsimp only)
    refine m_X12_in1 c1 c2 ?_
    ((repeat' first | refine hP2 _ ?_ | fail); try dsimp only)
    refine ⟨fun c => absurd c (by decide), fun _ => ?_⟩
    ((repeat' first | refine hP2 _ ?_ | fail); try dsimp only)
    refine m_X12_in1 k1 k2 ?_
    ((repeat' first | refine hP2 _ ?_ | fail); try dsimp only)
    refine ⟨fun _ => ?_, fun c => absurd c (by decide)⟩
    ((repeat' first | refine hP2 _ ?_ | fail); try dsimp only)
    refine m_X12_copies (by decide) ?_
    ((repeat' first | refine hP2 _ ?_ | fail); try dsimp only)
    refine m_goR hN hI hl f' (fun v2 a1 a2 a3 a4 a5 a6 a7 => ?_)
    have cc : ∀ k, k ≠ 63 → f_row v2 64 63 14 k = v2 k := fun k hk => by
      funext y
      exact if_neg (fun q => hk q.1)
    ((repeat' first | refine hP2 _ ?_ | fail); try dsimp only)
    refine m_X12_copies (by decide) ?_
    ((repeat' first | refine hP2 _ ?_ | fail); try dsimp only)
    refine ⟨fun _ => ?_, fun c => absurd (by decide) c⟩
    ((repeat' first | refine hP2 _ ?_ | fail); try dsimp only)
    refine ⟨am_vin (by decide), ?_⟩
    ((repeat' first | refine hP2 _ ?_ | fail); try dsimp only)
    rw [show Int32.toNatClampNeg (4 - 3) = 1 by decide, cc 84 (by decide)]
    exact am_qr (a7 1 (by decide)) rfl (h2 _ w (hI.trial f' a1))
