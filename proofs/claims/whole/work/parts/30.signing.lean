/-! ===== pair: signing ===== -/
def sgA (t : Nat → Int32) : Nat → Int32
  | 0 => 0
  | i + 1 => sgA t i + t (2 * i)
def sgB (t : Nat → Int32) : Nat → Int32
  | 0 => 0
  | i + 1 => sgB t i + t (2 * i + 1)
def sgC (t : Nat → Int32) : Nat → Int32
  | 0 => 0
  | i + 1 => f_mx (sgC t i) (t (2 * i) + t (2 * i + 1))
theorem sg_congr {t u : Nat → Int32} : ∀ n, (∀ j, j < 2 * n → t j = u j) → sgA t n = sgA u n ∧ sgB t n = sgB u n ∧ sgC t n = sgC u n
  | 0, _ => ⟨rfl, rfl, rfl⟩
  | n + 1, h => by
    obtain ⟨a, b, c⟩ := sg_congr n (fun j hj => h j (by omega))
    refine ⟨?_, ?_, ?_⟩
    · rw [sgA, sgA, a, h _ (by omega)]
    · rw [sgB, sgB, b, h _ (by omega)]
    · rw [sgC, sgC, c, h _ (by omega), h _ (by omega)]
def sgL (t : Nat → Int32) (n : Nat) : Int32 := f_mx (sgC t n) (f_mx (sgA t n) (sgB t n))
def sgW (t : Nat → Int32) (n : Nat) : Int32 := if sgL t n = sgA t n then 0 else if sgL t n = sgB t n then 1 else 2
section M30
variable {K : am_K} {I : am_I} {d : Nat} {v : am_V} {w : am_X} {Q : Option Value → am_H → Prop}
set_option maxRecDepth 100000 in
set_option maxHeartbeats 4000000 in
theorem m_X0_sign {N n : Nat} (hn : v 1 1 = nI n) (hn2 : n ≤ 260) (hN : 2 * N ≤ n) (h : Q none (am_sh, am_up (am_up v 43 8 (sgL (v 2) N)) 43 9 (sgW (v 2) N), w)) : am_run K I am_m (d + 2) 2 [.ref 43, .int (nI N)] (am_sh, v, w) 0 0 Q := by
  refine en_X0_sign rfl ?_
  intro P hP
  have key : ∀ (k i : Nat) (l6 l7 : Option Value), i + k = N → P (cd_X0_sign.drop 8, [some (.ref 43), some (.int (nI N)), some (.int (sgA (v 2) i)), some (.int (sgB (v 2) i)), some (.int (sgC (v 2) i)), some (.int (nI i)), l6, l7], [], (am_sh, v, w), 0, 0) := by
    intro k
    induction k with
    | zero =>
      intro i l6 l7 hi
      have hi : i = N := by omega
      subst hi
      ((repeat' first | refine hP _ ?_ | fail); try dsimp only)
      refine ⟨fun _ => ?_, fun c => absurd (nI_le (Nat.le_refl i) (by omega)) c⟩
      ((repeat' first | refine hP _ ?_ | fail); try dsimp only)
      have e1 : am_up v 43 8 (sgL (v 2) i) 43 8 = sgL (v 2) i := by simp [am_up_eq]
      change am_step _ _ _ _ _ _ _ _ (_, _, [Value.int (sgA (v 2) i), Value.int (am_up v 43 8 (sgL (v 2) i) 43 8), _], _, _, _)
      rw [e1]
      refine ⟨fun c => ?_, fun c => ?_⟩
      · ((repeat' first | refine hP _ ?_ | fail); try dsimp only)
        change am_step _ _ _ _ _ _ _ _ (_, _, [Value.int (sgB (v 2) i), Value.int (am_up v 43 8 (sgL (v 2) i) 43 8), _], _, _, _)
        rw [e1]
        refine ⟨fun c2 => ?_, fun c2 => ?_⟩
        · ((repeat' first | refine hP _ ?_ | fail); try dsimp only)
          rw [sgW, if_neg c, if_neg c2] at h
          exact h
        · ((repeat' first | refine hP _ ?_ | fail); try dsimp only)
          rw [sgW, if_neg c, if_pos c2] at h
          exact h
      · ((repeat' first | refine hP _ ?_ | fail); try dsimp only)
        rw [sgW, if_pos c] at h
        exact h
    | succ k ih =>
      intro i l6 l7 hi
      have e2 : 2 * nI i = nI (2 * i) := pk_mul 2 i
      have e3 : nI (2 * i) + 1 = nI (2 * i + 1) := nI_1 _
      ((repeat' first | refine hP _ ?_ | fail); try dsimp only)
      refine ⟨fun c => absurd c (nI_ge (by omega) (by omega)), fun _ => ?_⟩
      ((repeat' first | refine hP _ ?_ | fail); try dsimp only)
      rw [e2]
      refine m_byteAt (by omega) hn hn2 ?_
      ((repeat' first | refine hP _ ?_ | fail); try dsimp only)
      rw [e2, e3]
      refine m_byteAt (by omega) hn hn2 ?_
      have e := ih (i + 1) (some (.int (v 2 (2 * i)))) (some (.int (v 2 (2 * i + 1)))) (by omega)
      rw [← nI_1] at e
      ((iterate 17 refine hP _ ?_); try dsimp only)
      exact e
  ((iterate 8 refine hP _ ?_); try dsimp only)
  exact key N 0 none none (by omega)
end M30
section M30b
variable {K : am_K} {I : am_I} {d : Nat} {v : am_V} {w : am_X} {Q : Option Value → am_H → Prop} {P : am_C → Prop}
set_option maxRecDepth 100000 in
set_option maxHeartbeats 4000000 in
theorem lp_signing2 {N : Nat} {what : Int32} {t : Nat → Int32} (ht : t = fun j => v 66 j &&& 255) (hN : N ≤ 12) (hw : iv_bit what) (hP : ∀ c, am_step K I (am_run K I am_m (d + 1)) cd_X12_signing 0 0 Q P c → P c) (h : Q (some (.int (if what = 0 then sgL t N else sgW t N))) (am_sh, v, w)) : ∀ k i : Nat, i + k = N → P (cd_X12_signing.drop 29, [some (.ref 62), some (.int (nI N)), some (.int what), some (.int (sgA t i)), some (.int (sgB t i)), some (.int (sgC t i)), some (.int (nI i))], [], (am_sh, v, w), 0, 0) := by
  intro k
  induction k with
  | zero =>
    intro i hi
    have hi : i = N := by omega
    subst hi
    ((repeat' first | refine hP _ ?_ | fail); try dsimp only)
    refine ⟨fun _ => ?_, fun c => absurd (nI_le (Nat.le_refl i) (by omega)) c⟩
    ((repeat' first | refine hP _ ?_ | fail); try dsimp only)
    refine m_X12_max ?_
    rw [f_mx2]
    ((repeat' first | refine hP _ ?_ | fail); try dsimp only)
    refine m_X12_max ?_
    rw [f_mx2, show f_mx (sgC t i) (f_mx (sgA t i) (sgB t i)) = sgL t i from rfl]
    ((repeat' first | refine hP _ ?_ | fail); try dsimp only)
    refine ⟨fun c => ?_, fun c => ?_⟩
    · rw [if_neg c] at h
      ((repeat' first | refine hP _ ?_ | fail); try dsimp only)
      refine ⟨fun c2 => ?_, fun c2 => ?_⟩
      · ((repeat' first | refine hP _ ?_ | fail); try dsimp only)
        refine ⟨fun c3 => ?_, fun c3 => ?_⟩
        · ((repeat' first | refine hP _ ?_ | fail); try dsimp only)
          rw [sgW, if_neg (fun q => c2 q.symm), if_neg (fun q => c3 q.symm)] at h
          exact h
        · ((repeat' first | refine hP _ ?_ | fail); try dsimp only)
          rw [sgW, if_neg (fun q => c2 q.symm), if_pos c3.symm] at h
          exact h
      · ((repeat' first | refine hP _ ?_ | fail); try dsimp only)
        rw [sgW, if_pos c2.symm] at h
        exact h
    · ((repeat' first | refine hP _ ?_ | fail); try dsimp only)
      rw [if_pos c] at h
      exact h
  | succ k ih =>
    intro i hi
    have e2 : 2 * nI i = nI (2 * i) := pk_mul 2 i
    have e3 : nI (2 * i) + 1 = nI (2 * i + 1) := nI_1 _
    ((repeat' first | refine hP _ ?_ | fail); try dsimp only)
    refine ⟨fun c => absurd c (nI_ge (by omega) (by omega)), fun _ => ?_⟩
    ((repeat' first | refine hP _ ?_ | fail); try dsimp only)
    rw [e2]
    refine m_X12_octet (by omega) ?_
    ((repeat' first | refine hP _ ?_ | fail); try dsimp only)
    rw [e2, e3]
    refine m_X12_octet (by omega) ?_
    ((repeat' first | refine hP _ ?_ | fail); try dsimp only)
    rw [e2]
    refine m_X12_octet (by omega) ?_
    ((repeat' first | refine hP _ ?_ | fail); try dsimp only)
    rw [e2, e3]
    refine m_X12_octet (by omega) ?_
    ((repeat' first | refine hP _ ?_ | fail); try dsimp only)
    refine m_X12_max ?_
    rw [f_mx2]
    have e := ih (i + 1) (by omega)
    rw [← nI_1, sgA, sgB, sgC, show t (2 * i) = v 66 (2 * i) &&& 255 by rw [ht], show t (2 * i + 1) = v 66 (2 * i + 1) &&& 255 by rw [ht]] at e
    ((iterate 3 refine hP _ ?_); try dsimp only)
    exact e
end M30b
set_option maxRecDepth 100000 in
set_option maxHeartbeats 4000000 in
theorem pr_signing {L : Nat} {xs : Nat → Int32} (a b : Int32) : am_pair L xs 119 214 [.int a, .int b] := by
  intro d v w Q hI h
  obtain ⟨n, hn, hn1, hn2, hby⟩ := hI.2.2.2.1
  refine en_X11_signing rfl ?_
  intro P hP
  ((repeat' first | refine hP _ ?_ | fail); try dsimp only)
  refine m_X11_outside (fun c => ?_) (fun c1 c2 => ?_)
  · ((repeat' first | refine hP _ ?_ | refine ⟨fun c1 => absurd c1 (by decide), fun _ => ?_⟩ | refine ⟨fun _ => ?_, fun c1 => absurd c1 (by decide)⟩ | refine ⟨am_vin rfl, ?_⟩ | refine ⟨fun c1 => ?_, fun c1 => ?_⟩ | refine ⟨Or.inr rfl, ?_⟩ | refine ⟨Or.inl rfl, ?_⟩ | fail); all_goals (try dsimp only at *))
    refine h (-1) v w (fun Q2 h2 => ?_)
    refine en_X12_signing rfl ?_
    intro P2 hP2
    ((repeat' first | refine hP2 _ ?_ | fail); try dsimp only)
    refine m_X12_in0 c ?_
    ((repeat' first | refine hP2 _ ?_ | refine ⟨fun c1 => absurd c1 (by decide), fun _ => ?_⟩ | refine ⟨fun _ => ?_, fun c1 => absurd c1 (by decide)⟩ | refine ⟨am_vin rfl, ?_⟩ | refine ⟨fun c1 => ?_, fun c1 => ?_⟩ | refine ⟨Or.inr rfl, ?_⟩ | refine ⟨Or.inl rfl, ?_⟩ | fail); all_goals (try dsimp only at *))
    exact h2 v w hI
  · ((repeat' first | refine hP _ ?_ | fail); try dsimp only)
    refine ⟨fun e => absurd rfl e, fun _ => ?_⟩
    ((repeat' first | refine hP _ ?_ | fail); try dsimp only)
    refine m_X11_outside (fun e => ?_) (fun e1 e2 => ?_)
    · ((repeat' first | refine hP _ ?_ | refine ⟨fun c1 => absurd c1 (by decide), fun _ => ?_⟩ | refine ⟨fun _ => ?_, fun c1 => absurd c1 (by decide)⟩ | refine ⟨am_vin rfl, ?_⟩ | refine ⟨fun c1 => ?_, fun c1 => ?_⟩ | refine ⟨Or.inr rfl, ?_⟩ | refine ⟨Or.inl rfl, ?_⟩ | fail); all_goals (try dsimp only at *))
      refine h (-1) v w (fun Q2 h2 => ?_)
      refine en_X12_signing rfl ?_
      intro P2 hP2
      ((repeat' first | refine hP2 _ ?_ | fail); try dsimp only)
      refine m_X12_in1 c1 c2 ?_
      ((repeat' first | refine hP2 _ ?_ | fail); try dsimp only)
      refine ⟨fun e => absurd e (by decide), fun _ => ?_⟩
      ((repeat' first | refine hP2 _ ?_ | fail); try dsimp only)
      refine m_X12_in0 e ?_
      ((repeat' first | refine hP2 _ ?_ | refine ⟨fun c1 => absurd c1 (by decide), fun _ => ?_⟩ | refine ⟨fun _ => ?_, fun c1 => absurd c1 (by decide)⟩ | refine ⟨am_vin rfl, ?_⟩ | refine ⟨fun c1 => ?_, fun c1 => ?_⟩ | refine ⟨Or.inr rfl, ?_⟩ | refine ⟨Or.inl rfl, ?_⟩ | fail); all_goals (try dsimp only at *))
      exact h2 v w hI
    · obtain ⟨N, hN1, hN, rfl⟩ := am_nat1 c1 c2 (n := 12) rfl
      have eN : 2 * nI N = nI (2 * N) := pk_mul 2 N
      ((repeat' first | refine hP _ ?_ | fail); try dsimp only)
      refine ⟨fun e => absurd rfl e, fun _ => ?_⟩
      ((repeat' first | refine hP _ ?_ | fail); try dsimp only)
      rw [eN]
      have hr0 : ∀ {Q2 : Option Value → am_H → Prop} {v1 : am_V} {P2 : am_C → Prop}, (∀ q, am_step (am_kc L xs) am_idx (am_run (am_kc L xs) am_idx am_m (d + 49)) cd_X12_signing 0 0 Q2 P2 q → P2 q) → v1 62 6 = nI n → (nI (2 * N) ≤ nI n → P2 (cd_X12_signing.drop 18, am_ent 7 [Value.ref 62, Value.int (nI N), Value.int b], [], (am_sh, v1, w), 0, 0)) → (¬ nI (2 * N) ≤ nI n → Q2 (some (.int (-1))) (am_sh, v1, w)) → P2 (cd_X12_signing, am_ent 7 [Value.ref 62, Value.int (nI N), Value.int b], [], (am_sh, v1, w), 0, 0) := by
        intro Q2 v1 P2 hP2 g6 k1 k2
        ((repeat' first | refine hP2 _ ?_ | fail); try dsimp only)
        refine m_X12_in1 c1 c2 ?_
        ((repeat' first | refine hP2 _ ?_ | fail); try dsimp only)
        refine ⟨fun e => absurd e (by decide), fun _ => ?_⟩
        ((repeat' first | refine hP2 _ ?_ | fail); try dsimp only)
        refine m_X12_in1 e1 e2 ?_
        ((repeat' first | refine hP2 _ ?_ | fail); try dsimp only)
        refine ⟨fun e => absurd e (by decide), fun _ => ?_⟩
        ((repeat' first | refine hP2 _ ?_ | fail); try dsimp only)
        rw [eN, g6]
        refine ⟨fun q => k1 q, fun q => ?_⟩
        ((repeat' first | refine hP2 _ ?_ | fail); try dsimp only)
        exact k2 q
      refine m_X8_has (fun q => ?_) (fun q => ?_)
      · rw [hn1] at q
        have hle : 2 * N ≤ n := (nI_leI (by omega) (by omega)).mp q
        ((repeat' first | refine hP _ ?_ | fail); try dsimp only)
        refine ⟨fun _ => ?_, fun e => absurd e (by decide)⟩
        ((repeat' first | refine hP _ ?_ | fail); try dsimp only)
        refine m_X0_sign hn1 hn hle ?_
        ((repeat' first | refine hP _ ?_ | fail); try dsimp only)
        refine m_X8_clear ?_
        have hcg := sg_congr (t := v 2) (u := fun j => v 66 j &&& 255) N (fun j hj => hby j (by omega))
        have hLq : sgL (v 2) N = sgL (fun j => v 66 j &&& 255) N := by rw [sgL, sgL, hcg.1, hcg.2.1, hcg.2.2]
        have hWq : sgW (v 2) N = sgW (fun j => v 66 j &&& 255) N := by rw [sgW, sgW, hLq, hcg.1, hcg.2.1]
        have hb := am_01 e1 e2
        have fin : Q (some (.int (if b = 0 then sgL (fun j => v 66 j &&& 255) N else sgW (fun j => v 66 j &&& 255) N))) (am_sh, am_up (am_up (am_up v 43 8 (sgL (v 2) N)) 43 9 (sgW (v 2) N)) 1 1 0, w) := by
          refine h _ _ w (fun Q2 h2 => ?_)
          refine en_X12_signing rfl ?_
          intro P2 hP2
          refine hr0 hP2 (by simp [am_up_eq]; exact hn2) (fun _ => ?_) (fun z => absurd q z)
          ((iterate 11 refine hP2 _ ?_); try dsimp only)
          refine lp_signing2 (t := fun j => v 66 j &&& 255) (by simp [am_up_eq]) hN hb hP2 ?_ N 0 (by omega)
          refine h2 _ w (hI.clr (fun k hk => ?_) (fun j hj => ?_) ?_ ?_)
          · have : k ≠ 62 ∧ k ≠ 1 ∧ k ≠ 43 := by
              refine ⟨?_, ?_, ?_⟩ <;> (intro z; rw [z] at hk; revert hk; decide)
            rw [am_up_ne _ _ _ this.1, am_up_ne _ _ _ this.2.1, am_up_ne _ _ _ this.2.2, am_up_ne _ _ _ this.2.2]
          · have : j ≠ 6 := by
              intro z; rw [z] at hj; revert hj; decide
            simp [am_up_eq, this]
          · simp [am_up_eq]
          · simp [am_up_eq]
        rcases hb with rfl | rfl
        · ((repeat' first | refine hP _ ?_ | refine ⟨fun c1 => absurd c1 (by decide), fun _ => ?_⟩ | refine ⟨fun _ => ?_, fun c1 => absurd c1 (by decide)⟩ | refine ⟨am_vin rfl, ?_⟩ | refine ⟨fun c1 => ?_, fun c1 => ?_⟩ | refine ⟨Or.inr rfl, ?_⟩ | refine ⟨Or.inl rfl, ?_⟩ | fail); all_goals (try dsimp only at *))
          refine am_qr ?_ rfl fin
          rw [if_pos rfl, ← hLq]
          simp [am_up_eq]
        · ((repeat' first | refine hP _ ?_ | refine ⟨fun c1 => absurd c1 (by decide), fun _ => ?_⟩ | refine ⟨fun _ => ?_, fun c1 => absurd c1 (by decide)⟩ | refine ⟨am_vin rfl, ?_⟩ | refine ⟨fun c1 => ?_, fun c1 => ?_⟩ | refine ⟨Or.inr rfl, ?_⟩ | refine ⟨Or.inl rfl, ?_⟩ | fail); all_goals (try dsimp only at *))
          refine am_qr ?_ rfl fin
          rw [if_neg (by decide), ← hWq]
          simp [am_up_eq]
      · rw [hn1] at q
        ((repeat' first | refine hP _ ?_ | refine ⟨fun c1 => absurd c1 (by decide), fun _ => ?_⟩ | refine ⟨fun _ => ?_, fun c1 => absurd c1 (by decide)⟩ | refine ⟨am_vin rfl, ?_⟩ | refine ⟨fun c1 => ?_, fun c1 => ?_⟩ | refine ⟨Or.inr rfl, ?_⟩ | refine ⟨Or.inl rfl, ?_⟩ | fail); all_goals (try dsimp only at *))
        refine h (-1) v w (fun Q2 h2 => ?_)
        refine en_X12_signing rfl ?_
        intro P2 hP2
        exact hr0 hP2 hn2 (fun z => absurd z (Int32.not_le.mpr q)) (fun _ => h2 v w hI)
