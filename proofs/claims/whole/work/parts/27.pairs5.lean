/-! ===== pairs: heralds, drums ===== -/
theorem am_nat {x c : Int32} {n : Nat} (h1 : 0 ≤ x) (h2 : x ≤ c) (hc : c.toInt = n) : ∃ j : Nat, j ≤ n ∧ x = nI j := nI_of2 hc (Int32.not_lt.mpr h1) h2
def f_her (n : Int32) : Nat → Int32
  | 0 => 1
  | j + 1 => f_her n j * (n + nI (j + 1)) / nI (j + 1)
section M27
variable {K : am_K} {I : am_I} {Tc : am_T} {v : am_V} {w : am_X} {Q : Option Value → am_H → Prop} {P : am_C → Prop}
set_option maxRecDepth 100000 in
set_option maxHeartbeats 4000000 in
theorem lp_heralds1 {n : Int32} {M : Nat} (hM : M ≤ 10) (hP : ∀ c, am_step K I Tc cd_X11_heralds 0 0 Q P c → P c) (h : Q (some (.int (f_her n M))) (am_sh, v, w)) : ∀ k j : Nat, j + k = M → P (cd_X11_heralds.drop 16, [some (.ref 0), some (.int n), some (.int (nI M)), some (.int (f_her n j)), some (.int (nI (j + 1)))], [], (am_sh, v, w), 0, 0) := by
  intro k
  induction k with
  | zero =>
    intro j hj
    ((repeat' first | refine hP _ ?_ | fail); try dsimp only)
    refine ⟨fun _ => ?_, fun c => absurd (nI_lt (a := M) (b := j + 1) (by omega) (by omega)) c⟩
    ((repeat' first | refine hP _ ?_ | fail); try dsimp only)
    rw [show j = M by omega]
    exact h
  | succ k ih =>
    intro j hj
    ((repeat' first | refine hP _ ?_ | fail); try dsimp only)
    refine ⟨fun c => absurd c (nI_nlt (by omega) (by omega)), fun _ => ?_⟩
    ((repeat' first | refine hP _ ?_ | fail); try dsimp only)
    refine ⟨fun c => absurd ((nI_eq (a := j + 1) (b := 0) (by omega) (by omega)).mp c) (by omega), ?_⟩
    have e := ih (j + 1) (by omega)
    rw [show nI (j + 1 + 1) = nI (j + 1) + 1 from (nI_1 _).symm] at e
    ((iterate 3 refine hP _ ?_); try dsimp only)
    exact e
set_option maxRecDepth 100000 in
set_option maxHeartbeats 4000000 in
theorem lp_heralds2 {n : Int32} {M : Nat} (hM : M ≤ 10) (hP : ∀ c, am_step K I Tc cd_X12_heralds 0 0 Q P c → P c) (h : Q (some (.int (f_her n M))) (am_sh, v, w)) : ∀ k j : Nat, j + k = M → P (cd_X12_heralds.drop 16, [some (.ref 62), some (.int n), some (.int (nI M)), some (.int (f_her n j)), some (.int (nI (j + 1)))], [], (am_sh, v, w), 0, 0) := by
  intro k
  induction k with
  | zero =>
    intro j hj
    ((repeat' first | refine hP _ ?_ | fail); try dsimp only)
    refine ⟨fun _ => ?_, fun c => absurd (nI_lt (a := M) (b := j + 1) (by omega) (by omega)) c⟩
    ((repeat' first | refine hP _ ?_ | fail); try dsimp only)
    rw [show j = M by omega]
    exact h
  | succ k ih =>
    intro j hj
    ((repeat' first | refine hP _ ?_ | fail); try dsimp only)
    refine ⟨fun c => absurd c (nI_nlt (by omega) (by omega)), fun _ => ?_⟩
    ((repeat' first | refine hP _ ?_ | fail); try dsimp only)
    refine ⟨fun c => absurd ((nI_eq (a := j + 1) (b := 0) (by omega) (by omega)).mp c) (by omega), ?_⟩
    have e := ih (j + 1) (by omega)
    rw [show nI (j + 1 + 1) = nI (j + 1) + 1 from (nI_1 _).symm] at e
    ((iterate 3 refine hP _ ?_); try dsimp only)
    exact e
end M27
set_option maxRecDepth 100000 in
set_option maxHeartbeats 4000000 in
theorem pr_heralds {L : Nat} {xs : Nat → Int32} (a b : Int32) : am_pair L xs 127 229 [.int a, .int b] := by
  intro d v w Q hI h
  refine en_X11_heralds rfl ?_
  intro P hP
  ((repeat' first | refine hP _ ?_ | fail); try dsimp only)
  refine m_X11_outside (fun c => ?_) (fun c1 c2 => ?_)
  · ((repeat' first | refine hP _ ?_ | refine ⟨fun c1 => absurd c1 (by decide), fun _ => ?_⟩ | refine ⟨fun _ => ?_, fun c1 => absurd c1 (by decide)⟩ | refine ⟨am_vin rfl, ?_⟩ | refine ⟨fun c1 => ?_, fun c1 => ?_⟩ | refine ⟨Or.inr rfl, ?_⟩ | refine ⟨Or.inl rfl, ?_⟩ | fail); all_goals (try dsimp only at *))
    refine h (-1) v w (fun Q2 h2 => ?_)
    refine en_X12_heralds rfl ?_
    intro P2 hP2
    ((repeat' first | refine hP2 _ ?_ | fail); try dsimp only)
    refine m_X12_in0 c ?_
    ((repeat' first | refine hP2 _ ?_ | refine ⟨fun c1 => absurd c1 (by decide), fun _ => ?_⟩ | refine ⟨fun _ => ?_, fun c1 => absurd c1 (by decide)⟩ | refine ⟨am_vin rfl, ?_⟩ | refine ⟨fun c1 => ?_, fun c1 => ?_⟩ | refine ⟨Or.inr rfl, ?_⟩ | refine ⟨Or.inl rfl, ?_⟩ | fail); all_goals (try dsimp only at *))
    exact h2 v w hI
  · ((repeat' first | refine hP _ ?_ | fail); try dsimp only)
    refine ⟨fun e => absurd rfl e, fun _ => ?_⟩
    ((repeat' first | refine hP _ ?_ | fail); try dsimp only)
    refine m_X11_outside (fun e => ?_) (fun e1 e2 => ?_)
    · ((repeat' first | refine hP _ ?_ | refine ⟨fun c1 => absurd c1 (by decide), fun _ => ?_⟩ | refine ⟨fun _ => ?_, fun c1 => absurd c1 (by decide)⟩ | refine ⟨am_vin rfl, ?_⟩ | refine ⟨fun c1 => ?_, fun c1 => ?_⟩ | refine ⟨Or.inr rfl, ?_⟩ | refine ⟨Or.inl rfl, ?_⟩ | fail); all_goals (try dsimp only at *))
      refine h (-1) v w (fun Q2 h2 => ?_)
      refine en_X12_heralds rfl ?_
      intro P2 hP2
      ((repeat' first | refine hP2 _ ?_ | fail); try dsimp only)
      refine m_X12_in1 c1 c2 ?_
      ((repeat' first | refine hP2 _ ?_ | fail); try dsimp only)
      refine ⟨fun e => absurd e (by decide), fun _ => ?_⟩
      ((repeat' first | refine hP2 _ ?_ | fail); try dsimp only)
      refine m_X12_in0 e ?_
      ((repeat' first | refine hP2 _ ?_ | refine ⟨fun c1 => absurd c1 (by decide), fun _ => ?_⟩ | refine ⟨fun _ => ?_, fun c1 => absurd c1 (by decide)⟩ | refine ⟨am_vin rfl, ?_⟩ | refine ⟨fun c1 => ?_, fun c1 => ?_⟩ | refine ⟨Or.inr rfl, ?_⟩ | refine ⟨Or.inl rfl, ?_⟩ | fail); all_goals (try dsimp only at *))
      exact h2 v w hI
    · obtain ⟨M, hM, rfl⟩ := am_nat e1 e2 (n := 10) rfl
      ((repeat' first | refine hP _ ?_ | fail); try dsimp only)
      refine ⟨fun _ => ?_, fun e => absurd rfl e⟩
      ((iterate 4 refine hP _ ?_); try dsimp only)
      refine lp_heralds1 hM hP ?_ M 0 (by omega)
      refine h _ v w (fun Q2 h2 => ?_)
      refine en_X12_heralds rfl ?_
      intro P2 hP2
      ((repeat' first | refine hP2 _ ?_ | fail); try dsimp only)
      refine m_X12_in1 c1 c2 ?_
      ((repeat' first | refine hP2 _ ?_ | fail); try dsimp only)
      refine ⟨fun e => absurd e (by decide), fun _ => ?_⟩
      ((repeat' first | refine hP2 _ ?_ | fail); try dsimp only)
      refine m_X12_in1 e1 e2 ?_
      ((repeat' first | refine hP2 _ ?_ | fail); try dsimp only)
      refine ⟨fun _ => ?_, fun e => absurd e (by decide)⟩
      ((iterate 4 refine hP2 _ ?_); try dsimp only)
      exact lp_heralds2 hM hP2 (h2 v w hI) M 0 (by omega)
/-- the beats of two drums -/
def f_hit (F E O R k : Nat) : Prop := O ≤ F + k * E ∧ (F + k * E - O) % R = 0
def f_dr (F E O R : Nat) : Nat → Nat → Int32
  | 0, _ => -2
  | n + 1, k => if O ≤ F + k * E ∧ (F + k * E - O) % R = 0 then nI (F + k * E) else f_dr F E O R n (k + 1)
theorem dr_none {F E O R : Nat} : ∀ (m k : Nat), (∀ j, j < m → ¬ f_hit F E O R (k + j)) → f_dr F E O R m k = -2
  | 0, _, _ => rfl
  | m + 1, k, h => by
    unfold f_dr
    rw [if_neg (show ¬ (O ≤ F + k * E ∧ (F + k * E - O) % R = 0) from h 0 (by omega))]
    exact dr_none m (k + 1) (fun j hj => by
      have := h (j + 1) (by omega)
      rw [show k + (j + 1) = k + 1 + j by omega] at this
      exact this)
theorem dr_ext {F E O R : Nat} (m : Nat) : ∀ (n k : Nat), (∀ j, n ≤ j → j < n + m → f_hit F E O R (k + j) → ∃ i, i < n ∧ f_hit F E O R (k + i)) → f_dr F E O R (n + m) k = f_dr F E O R n k
  | 0, k, h => by
    rw [Nat.zero_add]
    exact dr_none m k (fun j hj q => by
      obtain ⟨i, hi, -⟩ := h j (by omega) (by omega) q
      omega)
  | n + 1, k, h => by
    rw [show n + 1 + m = (n + m) + 1 by omega]
    unfold f_dr
    by_cases hk : O ≤ F + k * E ∧ (F + k * E - O) % R = 0
    · rw [if_pos hk, if_pos hk]
    · rw [if_neg hk, if_neg hk]
      refine dr_ext m n (k + 1) (fun j h1 h2 h3 => ?_)
      obtain ⟨i, hi, hh⟩ := h (j + 1) (by omega) (by omega) (by rw [show k + (j + 1) = k + 1 + j by omega]; exact h3)
      cases i with
      | zero => exact absurd hh hk
      | succ i => exact ⟨i, by omega, by rw [show k + 1 + i = k + (i + 1) by omega]; exact hh⟩
theorem dr_same {F E O R : Nat} (hF : F ≤ 999) (hE : 1 ≤ E) (hO : O ≤ 999) (hR : 1 ≤ R) (hR2 : R ≤ 1000) : f_dr F E O R 2000 0 = f_dr F E O R (R + 1000) 0 := by
  rw [show 2000 = (R + 1000) + (1000 - R) by omega]
  refine dr_ext _ _ _ (fun j h1 h2 h3 => ?_)
  refine ⟨1000 + (j - 1000) % R, ?_, ?_⟩
  · have := Nat.mod_lt (j - 1000) (show 0 < R by omega)
    omega
  · rw [Nat.zero_add] at h3 ⊢
    have hq := Nat.div_add_mod (j - 1000) R
    have hj : j = 1000 + (j - 1000) % R + R * ((j - 1000) / R) := by omega
    generalize (j - 1000) % R = s at hj ⊢
    generalize (j - 1000) / R = t at hj
    subst hj
    obtain ⟨g1, g2⟩ := h3
    have hge : O ≤ F + (1000 + s) * E := by
      have : 1000 * 1 ≤ (1000 + s) * E := Nat.mul_le_mul (by omega) hE
      omega
    refine ⟨hge, ?_⟩
    have e : F + (1000 + s + R * t) * E - O = (F + (1000 + s) * E - O) + R * (t * E) := by
      rw [Nat.add_mul, Nat.mul_assoc]
      omega
    rw [e, Nat.add_mul_mod_self_left] at g2
    exact g2
section M27b
variable {K : am_K} {I : am_I} {Tc : am_T} {v : am_V} {w : am_X} {Q : Option Value → am_H → Prop} {P : am_C → Prop}
theorem dr_bd {F E k : Nat} (hF : F ≤ 999) (hE : E ≤ 1000) (hk : k ≤ 2000) : F + k * E < 2 ^ 31 := by
  have := Nat.mul_le_mul hk hE
  omega
set_option maxRecDepth 100000 in
set_option maxHeartbeats 4000000 in
theorem lp_drums1 {F E O R : Nat} (hF : F ≤ 999) (hE : E ≤ 1000) (hO : O ≤ 999) (hR : 1 ≤ R) (hR2 : R ≤ 1000) (hP : ∀ c, am_step K I Tc cd_X11_drums 0 0 Q P c → P c) : ∀ (n k : Nat) (l6 : Option Value), k + n = 2000 → Q (some (.int (f_dr F E O R n k))) (am_sh, v, w) → P (cd_X11_drums.drop 24, [some (.ref 0), some (.int (nI F)), some (.int (nI E)), some (.int (nI O)), some (.int (nI R)), some (.int (nI k)), l6], [], (am_sh, v, w), 0, 0) := by
  intro n
  induction n with
  | zero =>
    intro k l6 hk h
    ((repeat' first | refine hP _ ?_ | fail); try dsimp only)
    refine ⟨fun _ => ?_, fun c => absurd (show (2000 : Int32) ≤ nI k by rw [show k = 2000 by omega]; decide) c⟩
    ((repeat' first | refine hP _ ?_ | fail); try dsimp only)
    exact h
  | succ n ih =>
    intro k l6 hk h
    have hbd := dr_bd hF hE (show k ≤ 2000 by omega)
    have e1 : nI F + nI k * nI E = nI (F + k * E) := by rw [pk_mul, nI_add]
    unfold f_dr at h
    ((repeat' first | refine hP _ ?_ | fail); try dsimp only)
    refine ⟨fun c => absurd c (nI_ge (a := k) (b := 2000) (by omega) (by omega)), fun _ => ?_⟩
    ((repeat' first | refine hP _ ?_ | fail); try dsimp only)
    rw [e1]
    refine ⟨fun c => ?_, fun c => ?_⟩
    · rw [if_neg (fun q => absurd ((nI_ltI (by omega) (by omega)).mp c) (by omega))] at h
      have e := ih (k + 1) (some (.int (nI (F + k * E)))) (by omega) h
      rw [show nI (k + 1) = nI k + 1 from (nI_1 _).symm] at e
      ((iterate 2 refine hP _ ?_); try dsimp only)
      exact e
    · have hle : O ≤ F + k * E := by
        rcases Nat.lt_or_ge (F + k * E) O with q | q
        · exact absurd ((nI_ltI (by omega) (by omega)).mpr q) c
        · exact q
      have e2 : am_rem (nI (F + k * E) - nI O) (nI R) = nI ((F + k * E - O) % R) := by
        rw [pk_sub hle]
        exact pk_rem (by omega) (by omega) (by omega)
      ((repeat' first | refine hP _ ?_ | fail); try dsimp only)
      refine ⟨fun c => absurd ((nI_eq (a := R) (b := 0) (by omega) (by omega)).mp c) (by omega), ?_⟩
      ((repeat' first | refine hP _ ?_ | fail); try dsimp only)
      rw [e2]
      have hlt : (F + k * E - O) % R < 2 ^ 31 := Nat.lt_of_lt_of_le (Nat.mod_lt _ (by omega)) (by omega)
      refine ⟨fun c => ?_, fun c => ?_⟩
      · rw [if_neg (fun q => c (by rw [q.2]; rfl))] at h
        have e := ih (k + 1) (some (.int (nI (F + k * E)))) (by omega) h
        rw [show nI (k + 1) = nI k + 1 from (nI_1 _).symm] at e
        ((iterate 2 refine hP _ ?_); try dsimp only)
        exact e
      · rw [if_pos ⟨hle, (nI_eq (b := 0) hlt (by omega)).mp c⟩] at h
        ((repeat' first | refine hP _ ?_ | fail); try dsimp only)
        exact h
set_option maxRecDepth 100000 in
set_option maxHeartbeats 4000000 in
theorem lp_drums2 {F E O R : Nat} (hF : F ≤ 999) (hE : E ≤ 1000) (hO : O ≤ 999) (hR : 1 ≤ R) (hR2 : R ≤ 1000) (hP : ∀ c, am_step K I Tc cd_X12_drums 0 0 Q P c → P c) : ∀ (n k : Nat), k + n = R + 1000 → Q (some (.int (f_dr F E O R n k))) (am_sh, v, w) → P (cd_X12_drums.drop 26, [some (.ref 62), some (.int (nI F)), some (.int (nI E)), some (.int (nI O)), some (.int (nI R)), some (.int (nI (F + k * E))), some (.int (nI k))], [], (am_sh, v, w), 0, 0) := by
  have e9 : nI R + 1000 = nI (R + 1000) := nI_add R 1000
  intro n
  induction n with
  | zero =>
    intro k hk h
    ((repeat' first | refine hP _ ?_ | fail); try dsimp only)
    rw [e9]
    refine ⟨fun _ => ?_, fun c => absurd (nI_le (a := R + 1000) (b := k) (by omega) (by omega)) c⟩
    ((repeat' first | refine hP _ ?_ | fail); try dsimp only)
    exact h
  | succ n ih =>
    intro k hk h
    have hbd := dr_bd hF hE (show k ≤ 2000 by omega)
    have e1 : nI (F + k * E) + nI E = nI (F + (k + 1) * E) := by
      rw [nI_add, show F + k * E + E = F + (k + 1) * E by rw [Nat.add_mul]; omega]
    unfold f_dr at h
    ((repeat' first | refine hP _ ?_ | fail); try dsimp only)
    rw [e9]
    refine ⟨fun c => absurd c (nI_ge (by omega) (by omega)), fun _ => ?_⟩
    ((repeat' first | refine hP _ ?_ | fail); try dsimp only)
    refine ⟨fun c => ?_, fun c => ?_⟩
    · rw [if_neg (fun q => absurd ((nI_ltI (by omega) (by omega)).mp c) (by omega))] at h
      have e := ih (k + 1) (by omega) h
      rw [show nI (k + 1) = nI k + 1 from (nI_1 _).symm, ← e1] at e
      ((iterate 6 refine hP _ ?_); try dsimp only)
      exact e
    · have hle : O ≤ F + k * E := by
        rcases Nat.lt_or_ge (F + k * E) O with q | q
        · exact absurd ((nI_ltI (by omega) (by omega)).mpr q) c
        · exact q
      have e2 : am_rem (nI (F + k * E) - nI O) (nI R) = nI ((F + k * E - O) % R) := by
        rw [pk_sub hle]
        exact pk_rem (by omega) (by omega) (by omega)
      ((repeat' first | refine hP _ ?_ | fail); try dsimp only)
      refine ⟨fun c => absurd ((nI_eq (a := R) (b := 0) (by omega) (by omega)).mp c) (by omega), ?_⟩
      ((repeat' first | refine hP _ ?_ | fail); try dsimp only)
      rw [e2]
      have hlt : (F + k * E - O) % R < 2 ^ 31 := Nat.lt_of_lt_of_le (Nat.mod_lt _ (by omega)) (by omega)
      refine ⟨fun c => ?_, fun c => ?_⟩
      · rw [if_neg (fun q => c (by rw [q.2]; rfl))] at h
        have e := ih (k + 1) (by omega) h
        rw [show nI (k + 1) = nI k + 1 from (nI_1 _).symm, ← e1] at e
        ((iterate 6 refine hP _ ?_); try dsimp only)
        exact e
      · rw [if_pos ⟨hle, (nI_eq (b := 0) hlt (by omega)).mp c⟩] at h
        ((repeat' first | refine hP _ ?_ | fail); try dsimp only)
        exact h
end M27b
theorem am_nat1 {x c : Int32} {n : Nat} (h1 : 1 ≤ x) (h2 : x ≤ c) (hc : c.toInt = n) : ∃ j : Nat, 1 ≤ j ∧ j ≤ n ∧ x = nI j := by
  have a := Int32.le_iff_toInt_le.mp h1
  rw [show (1 : Int32).toInt = 1 from rfl] at a
  obtain ⟨j, hj, rfl⟩ := am_nat (x := x) (Int32.le_iff_toInt_le.mpr (by rw [show (0 : Int32).toInt = 0 from rfl]; omega)) h2 hc
  refine ⟨j, ?_, hj, rfl⟩
  rcases Nat.eq_zero_or_pos j with rfl | q
  · exact absurd a (by decide)
  · exact q
set_option maxRecDepth 100000 in
set_option maxHeartbeats 4000000 in
theorem pr_drums {L : Nat} {xs : Nat → Int32} (a b c e : Int32) : am_pair L xs 124 226 [.int a, .int b, .int c, .int e] := by
  intro d v w Q hI h
  refine en_X11_drums rfl ?_
  intro P hP
  -- the reference's four checks
  have hR : ∀ {Q2 : Option Value → am_H → Prop}, (∀ (v2 : am_V) (w2 : am_X), INV v2 → Q2 (some (.int (-1))) (am_sh, v2, w2)) → ((a < 0 ∨ 999 < a) ∨ (c < 0 ∨ 999 < c) ∨ (b < 1 ∨ 1000 < b) ∨ (e < 1 ∨ 1000 < e)) → am_run (am_kc L xs) am_idx am_m (d + 50) 226 [.ref 62, .int a, .int b, .int c, .int e] (am_sh, v, w) 0 0 Q2 := by
    intro Q2 h2 hbad
    refine en_X12_drums rfl ?_
    intro P2 hP2
    ((repeat' first | refine hP2 _ ?_ | fail); try dsimp only)
    refine m_X12_in (fun a1 a2 => ?_) (fun _ => ?_)
    · ((repeat' first | refine hP2 _ ?_ | fail); try dsimp only)
      refine ⟨fun e => absurd e (by decide), fun _ => ?_⟩
      ((repeat' first | refine hP2 _ ?_ | fail); try dsimp only)
      refine m_X12_in (fun b1 b2 => ?_) (fun _ => ?_)
      · ((repeat' first | refine hP2 _ ?_ | fail); try dsimp only)
        refine ⟨fun e => absurd e (by decide), fun _ => ?_⟩
        ((repeat' first | refine hP2 _ ?_ | fail); try dsimp only)
        refine m_X12_in (fun c1 c2 => ?_) (fun _ => ?_)
        · ((repeat' first | refine hP2 _ ?_ | fail); try dsimp only)
          refine ⟨fun e => absurd e (by decide), fun _ => ?_⟩
          ((repeat' first | refine hP2 _ ?_ | fail); try dsimp only)
          refine m_X12_in (fun e1 e2 => ?_) (fun _ => ?_)
          · rcases hbad with q | q | q | q
            · exact (am_no q a1 a2).elim
            · exact (am_no q c1 c2).elim
            · exact (am_no q b1 b2).elim
            · exact (am_no q e1 e2).elim
          · ((repeat' first | refine hP2 _ ?_ | refine ⟨fun c1 => absurd c1 (by decide), fun _ => ?_⟩ | refine ⟨fun _ => ?_, fun c1 => absurd c1 (by decide)⟩ | refine ⟨am_vin rfl, ?_⟩ | refine ⟨fun c1 => ?_, fun c1 => ?_⟩ | refine ⟨Or.inr rfl, ?_⟩ | refine ⟨Or.inl rfl, ?_⟩ | fail); all_goals (try dsimp only at *))
            exact h2 v w hI
        · ((repeat' first | refine hP2 _ ?_ | refine ⟨fun c1 => absurd c1 (by decide), fun _ => ?_⟩ | refine ⟨fun _ => ?_, fun c1 => absurd c1 (by decide)⟩ | refine ⟨am_vin rfl, ?_⟩ | refine ⟨fun c1 => ?_, fun c1 => ?_⟩ | refine ⟨Or.inr rfl, ?_⟩ | refine ⟨Or.inl rfl, ?_⟩ | fail); all_goals (try dsimp only at *))
          exact h2 v w hI
      · ((repeat' first | refine hP2 _ ?_ | refine ⟨fun c1 => absurd c1 (by decide), fun _ => ?_⟩ | refine ⟨fun _ => ?_, fun c1 => absurd c1 (by decide)⟩ | refine ⟨am_vin rfl, ?_⟩ | refine ⟨fun c1 => ?_, fun c1 => ?_⟩ | refine ⟨Or.inr rfl, ?_⟩ | refine ⟨Or.inl rfl, ?_⟩ | fail); all_goals (try dsimp only at *))
        exact h2 v w hI
    · ((repeat' first | refine hP2 _ ?_ | refine ⟨fun c1 => absurd c1 (by decide), fun _ => ?_⟩ | refine ⟨fun _ => ?_, fun c1 => absurd c1 (by decide)⟩ | refine ⟨am_vin rfl, ?_⟩ | refine ⟨fun c1 => ?_, fun c1 => ?_⟩ | refine ⟨Or.inr rfl, ?_⟩ | refine ⟨Or.inl rfl, ?_⟩ | fail); all_goals (try dsimp only at *))
      exact h2 v w hI
  ((repeat' first | refine hP _ ?_ | fail); try dsimp only)
  refine m_X11_outside (fun q => ?_) (fun a1 a2 => ?_)
  · ((repeat' first | refine hP _ ?_ | refine ⟨fun c1 => absurd c1 (by decide), fun _ => ?_⟩ | refine ⟨fun _ => ?_, fun c1 => absurd c1 (by decide)⟩ | refine ⟨am_vin rfl, ?_⟩ | refine ⟨fun c1 => ?_, fun c1 => ?_⟩ | refine ⟨Or.inr rfl, ?_⟩ | refine ⟨Or.inl rfl, ?_⟩ | fail); all_goals (try dsimp only at *))
    exact h (-1) v w (fun Q2 h2 => hR h2 (Or.inl q))
  · ((repeat' first | refine hP _ ?_ | fail); try dsimp only)
    refine ⟨fun e => absurd rfl e, fun _ => ?_⟩
    ((repeat' first | refine hP _ ?_ | fail); try dsimp only)
    refine m_X11_outside (fun q => ?_) (fun c1 c2 => ?_)
    · ((repeat' first | refine hP _ ?_ | refine ⟨fun c1 => absurd c1 (by decide), fun _ => ?_⟩ | refine ⟨fun _ => ?_, fun c1 => absurd c1 (by decide)⟩ | refine ⟨am_vin rfl, ?_⟩ | refine ⟨fun c1 => ?_, fun c1 => ?_⟩ | refine ⟨Or.inr rfl, ?_⟩ | refine ⟨Or.inl rfl, ?_⟩ | fail); all_goals (try dsimp only at *))
      exact h (-1) v w (fun Q2 h2 => hR h2 (Or.inr (Or.inl q)))
    · ((repeat' first | refine hP _ ?_ | fail); try dsimp only)
      refine ⟨fun e => absurd rfl e, fun _ => ?_⟩
      ((repeat' first | refine hP _ ?_ | fail); try dsimp only)
      refine m_X11_outside (fun q => ?_) (fun b1 b2 => ?_)
      · ((repeat' first | refine hP _ ?_ | refine ⟨fun c1 => absurd c1 (by decide), fun _ => ?_⟩ | refine ⟨fun _ => ?_, fun c1 => absurd c1 (by decide)⟩ | refine ⟨am_vin rfl, ?_⟩ | refine ⟨fun c1 => ?_, fun c1 => ?_⟩ | refine ⟨Or.inr rfl, ?_⟩ | refine ⟨Or.inl rfl, ?_⟩ | fail); all_goals (try dsimp only at *))
        exact h (-1) v w (fun Q2 h2 => hR h2 (Or.inr (Or.inr (Or.inl q))))
      · ((repeat' first | refine hP _ ?_ | fail); try dsimp only)
        refine ⟨fun e => absurd rfl e, fun _ => ?_⟩
        ((repeat' first | refine hP _ ?_ | fail); try dsimp only)
        refine m_X11_outside (fun q => ?_) (fun e1 e2 => ?_)
        · ((repeat' first | refine hP _ ?_ | refine ⟨fun c1 => absurd c1 (by decide), fun _ => ?_⟩ | refine ⟨fun _ => ?_, fun c1 => absurd c1 (by decide)⟩ | refine ⟨am_vin rfl, ?_⟩ | refine ⟨fun c1 => ?_, fun c1 => ?_⟩ | refine ⟨Or.inr rfl, ?_⟩ | refine ⟨Or.inl rfl, ?_⟩ | fail); all_goals (try dsimp only at *))
          exact h (-1) v w (fun Q2 h2 => hR h2 (Or.inr (Or.inr (Or.inr q))))
        · ((repeat' first | refine hP _ ?_ | fail); try dsimp only)
          refine ⟨fun _ => ?_, fun e => absurd rfl e⟩
          obtain ⟨F, hF, rfl⟩ := am_nat a1 a2 (n := 999) rfl
          obtain ⟨O, hO, rfl⟩ := am_nat c1 c2 (n := 999) rfl
          obtain ⟨E, hE1, hE, rfl⟩ := am_nat1 b1 b2 (n := 1000) rfl
          obtain ⟨R, hR1, hR2, rfl⟩ := am_nat1 e1 e2 (n := 1000) rfl
          ((iterate 2 refine hP _ ?_); try dsimp only)
          refine lp_drums1 hF hE hO hR1 hR2 hP 2000 0 none rfl ?_
          refine h _ v w (fun Q2 h2 => ?_)
          refine en_X12_drums rfl ?_
          intro P2 hP2
          ((repeat' first | refine hP2 _ ?_ | fail); try dsimp only)
          refine m_X12_in1 a1 a2 ?_
          ((repeat' first | refine hP2 _ ?_ | fail); try dsimp only)
          refine ⟨fun e => absurd e (by decide), fun _ => ?_⟩
          ((repeat' first | refine hP2 _ ?_ | fail); try dsimp only)
          refine m_X12_in1 b1 b2 ?_
          ((repeat' first | refine hP2 _ ?_ | fail); try dsimp only)
          refine ⟨fun e => absurd e (by decide), fun _ => ?_⟩
          ((repeat' first | refine hP2 _ ?_ | fail); try dsimp only)
          refine m_X12_in1 c1 c2 ?_
          ((repeat' first | refine hP2 _ ?_ | fail); try dsimp only)
          refine ⟨fun e => absurd e (by decide), fun _ => ?_⟩
          ((repeat' first | refine hP2 _ ?_ | fail); try dsimp only)
          refine m_X12_in1 e1 e2 ?_
          ((repeat' first | refine hP2 _ ?_ | fail); try dsimp only)
          refine ⟨fun _ => ?_, fun e => absurd e (by decide)⟩
          have k := lp_drums2 (w := w) (v := v) (Q := Q2) hF hE hO hR1 hR2 hP2 (R + 1000) 0 (by omega) (by
            rw [← dr_same hF hE1 hO hR1 hR2]
            exact h2 v w hI)
          rw [Nat.zero_mul, Nat.add_zero] at k
          ((iterate 4 refine hP2 _ ?_); try dsimp only)
          exact k
