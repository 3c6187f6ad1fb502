/-! ===== pair: check ===== -/
def f_chk (x0 x1 x2 x3 t0 t1 t2 t3 : Int32) : Int32 := if x0 = t0 then (if x1 = t1 then (if x2 = t2 then (if x3 = t3 then -1 else 3) else 2) else 1) else 0
set_option maxRecDepth 100000 in
set_option maxHeartbeats 4000000 in
theorem pr_check {L : Nat} {xs : Nat → Int32} : am_pair L xs 131 233 [] := by
  intro d v w Q hI h
  obtain ⟨n, hn, hn1, hn2, hby⟩ := hI.2.2.2.1
  refine en_X11_check rfl ?_
  intro P hP
  ((repeat' first | refine hP _ ?_ | fail); try dsimp only)
  refine m_X8_has (fun q => ?_) (fun q => ?_)
  · rw [hn1] at q
    have hle : 4 ≤ n := (nI_leI (a := 4) (by omega) (by omega)).mp q
    ((repeat' first | refine hP _ ?_ | fail); try dsimp only)
    refine ⟨fun _ => ?_, fun e => absurd e (by decide)⟩
    have hb2 : ∀ (i : Nat) (kc : Nat) (k : Int32), i = 0 ∨ i = 1 → ((k = 0 ∧ kc = 31) ∨ (k = 1 ∧ kc = 32)) → am_rem (nI i) 2 = k → ∀ (w0 : Int32) (l3 l4 : Option Value), (∀ (l3 l4 : Option Value), P (cd_X11_check.drop 11, [some (.ref 0), some (.int (if v kc 1 = v 2 i then w0 else nI i)), some (.int (nI i + -1)), l3, l4], [], (am_sh, v, w), 0, 0)) → P (cd_X11_check.drop 11, [some (.ref 0), some (.int w0), some (.int (nI i)), l3, l4], [], (am_sh, v, w), 0, 0) := by
      intro i kc k hi hkc hk w0 l3 l4 kk
      ((repeat' first | refine hP _ ?_ | fail); try dsimp only)
      refine ⟨fun c => absurd c (Int32.not_lt.mpr (nI_pos' (by omega))), fun _ => ?_⟩
      ((repeat' first | refine hP _ ?_ | fail); try dsimp only)
      refine ⟨by decide, ?_⟩
      ((repeat' first | refine hP _ ?_ | fail); try dsimp only)
      rw [hk]
      rcases hkc with ⟨rfl, rfl⟩ | ⟨rfl, rfl⟩
      · refine m_X5_kingOf (Or.inl ⟨rfl, rfl, rfl⟩) (fun e => absurd e (by decide)) (fun _ => ?_)
        ((repeat' first | refine hP _ ?_ | fail); try dsimp only)
        refine ⟨fun c => absurd ((nI_leI (a := 2) (by omega) (by omega)).mp c) (by omega), fun _ => ?_⟩
        ((repeat' first | refine hP _ ?_ | fail); try dsimp only)
        refine m_byteAt (by omega) hn1 hn ?_
        ((repeat' first | refine hP _ ?_ | fail); try dsimp only)
        refine ⟨fun c => ?_, fun c => ?_⟩
        · have e := kk (some (.ref 31)) (some (.int (v 31 1)))
          rw [if_pos c] at e
          ((iterate 2 refine hP _ ?_); try dsimp only)
          exact e
        · have e := kk (some (.ref 31)) (some (.int (v 31 1)))
          rw [if_neg c] at e
          ((iterate 4 refine hP _ ?_); try dsimp only)
          exact e
      · refine m_X5_kingOf (Or.inl ⟨rfl, rfl, rfl⟩) (fun _ => ?_) (fun e => absurd rfl e)
        ((repeat' first | refine hP _ ?_ | fail); try dsimp only)
        refine ⟨fun c => absurd ((nI_leI (a := 2) (by omega) (by omega)).mp c) (by omega), fun _ => ?_⟩
        ((repeat' first | refine hP _ ?_ | fail); try dsimp only)
        refine m_byteAt (by omega) hn1 hn ?_
        ((repeat' first | refine hP _ ?_ | fail); try dsimp only)
        refine ⟨fun c => ?_, fun c => ?_⟩
        · have e := kk (some (.ref 32)) (some (.int (v 32 1)))
          rw [if_pos c] at e
          ((iterate 2 refine hP _ ?_); try dsimp only)
          exact e
        · have e := kk (some (.ref 32)) (some (.int (v 32 1)))
          rw [if_neg c] at e
          ((iterate 4 refine hP _ ?_); try dsimp only)
          exact e
    have ho2 : ∀ (i : Nat) (kc : Nat) (k : Int32), i = 2 ∨ i = 3 → ((k = 0 ∧ kc = 31) ∨ (k = 1 ∧ kc = 32)) → am_rem (nI i) 2 = k → ∀ (w0 : Int32) (l3 l4 : Option Value), (∀ (l3 l4 : Option Value), P (cd_X11_check.drop 11, [some (.ref 0), some (.int (if am_rem (v kc 2) 256 = v 2 i then w0 else nI i)), some (.int (nI i + -1)), l3, l4], [], (am_sh, v, w), 0, 0)) → P (cd_X11_check.drop 11, [some (.ref 0), some (.int w0), some (.int (nI i)), l3, l4], [], (am_sh, v, w), 0, 0) := by
      intro i kc k hi hkc hk w0 l3 l4 kk
      ((repeat' first | refine hP _ ?_ | fail); try dsimp only)
      refine ⟨fun c => absurd c (Int32.not_lt.mpr (nI_pos' (by omega))), fun _ => ?_⟩
      ((repeat' first | refine hP _ ?_ | fail); try dsimp only)
      refine ⟨by decide, ?_⟩
      ((repeat' first | refine hP _ ?_ | fail); try dsimp only)
      rw [hk]
      rcases hkc with ⟨rfl, rfl⟩ | ⟨rfl, rfl⟩
      · refine m_X5_kingOf (Or.inl ⟨rfl, rfl, rfl⟩) (fun e => absurd e (by decide)) (fun _ => ?_)
        ((repeat' first | refine hP _ ?_ | fail); try dsimp only)
        refine ⟨fun _ => ?_, fun c => absurd ((nI_leI (a := 2) (by omega) (by omega)).mpr (by omega)) c⟩
        ((repeat' first | refine hP _ ?_ | fail); try dsimp only)
        refine ⟨by decide, ?_⟩
        ((repeat' first | refine hP _ ?_ | fail); try dsimp only)
        refine m_byteAt (by omega) hn1 hn ?_
        ((repeat' first | refine hP _ ?_ | fail); try dsimp only)
        refine ⟨fun c => ?_, fun c => ?_⟩
        · have e := kk (some (.ref 31)) (some (.int (am_rem (v 31 2) 256)))
          rw [if_pos c] at e
          ((iterate 2 refine hP _ ?_); try dsimp only)
          exact e
        · have e := kk (some (.ref 31)) (some (.int (am_rem (v 31 2) 256)))
          rw [if_neg c] at e
          ((iterate 4 refine hP _ ?_); try dsimp only)
          exact e
      · refine m_X5_kingOf (Or.inl ⟨rfl, rfl, rfl⟩) (fun _ => ?_) (fun e => absurd rfl e)
        ((repeat' first | refine hP _ ?_ | fail); try dsimp only)
        refine ⟨fun _ => ?_, fun c => absurd ((nI_leI (a := 2) (by omega) (by omega)).mpr (by omega)) c⟩
        ((repeat' first | refine hP _ ?_ | fail); try dsimp only)
        refine ⟨by decide, ?_⟩
        ((repeat' first | refine hP _ ?_ | fail); try dsimp only)
        refine m_byteAt (by omega) hn1 hn ?_
        ((repeat' first | refine hP _ ?_ | fail); try dsimp only)
        refine ⟨fun c => ?_, fun c => ?_⟩
        · have e := kk (some (.ref 32)) (some (.int (am_rem (v 32 2) 256)))
          rw [if_pos c] at e
          ((iterate 2 refine hP _ ?_); try dsimp only)
          exact e
        · have e := kk (some (.ref 32)) (some (.int (am_rem (v 32 2) 256)))
          rw [if_neg c] at e
          ((iterate 4 refine hP _ ?_); try dsimp only)
          exact e
    ((iterate 4 refine hP _ ?_); try dsimp only)
    refine ho2 3 32 1 (by decide) (by decide) (by decide) (-1) none none (fun l3 l4 => ?_)
    refine ho2 2 31 0 (by decide) (by decide) (by decide) _ l3 l4 (fun l3 l4 => ?_)
    refine hb2 1 32 1 (by decide) (by decide) (by decide) _ l3 l4 (fun l3 l4 => ?_)
    refine hb2 0 31 0 (by decide) (by decide) (by decide) _ l3 l4 (fun l3 l4 => ?_)
    ((repeat' first | refine hP _ ?_ | fail); try dsimp only)
    refine ⟨fun _ => ?_, fun c => absurd (by decide) c⟩
    ((repeat' first | refine hP _ ?_ | fail); try dsimp only)
    refine m_X8_clear ?_
    ((repeat' first | refine hP _ ?_ | fail); try dsimp only)
    refine h (f_chk (v 31 1) (v 32 1) (am_rem (v 31 2) 256) (am_rem (v 32 2) 256) (v 2 0) (v 2 1) (v 2 2) (v 2 3)) _ w (fun Q2 h2 => ?_)
    -- the reference
    have hfin : Q2 (some (.int (f_chk (v 31 1) (v 32 1) (am_rem (v 31 2) 256) (am_rem (v 32 2) 256) (v 2 0) (v 2 1) (v 2 2) (v 2 3)))) (am_sh, am_up (am_up v 1 1 0) 62 6 0, w) := by
      refine h2 _ w (hI.clr (fun k hk => ?_) (fun j hj => ?_) ?_ ?_)
      · have : k ≠ 62 ∧ k ≠ 1 := by
          refine ⟨?_, ?_⟩ <;> (intro z; rw [z] at hk; revert hk; decide)
        rw [am_up_ne _ _ _ this.1, am_up_ne _ _ _ this.2]
      · have : j ≠ 6 := by
          intro z; rw [z] at hj; revert hj; decide
        simp [am_up_eq, this]
      · simp [am_up_eq]
      · simp [am_up_eq]
    obtain ⟨⟨⟨⟨m1, m2, m3, m4, m5, m6⟩, -⟩, ⟨-, -, r3, r4, -, -⟩, -⟩, -⟩ := hI
    have r256 : ∀ x : Int32, iv_in x 0 90 → am_rem x 256 = x := by
      intro x hx
      obtain ⟨j, hj, rfl⟩ := am_nat hx.1 hx.2 (n := 90) rfl
      exact (pk_rem (a := j) (d := 256) (by omega) (by omega) (by omega)).trans (by rw [Nat.mod_eq_of_lt (by omega)])
    generalize hu : am_up (am_up v 1 1 0) 62 6 0 = u at hfin
    have u66 : ∀ i, i < n → u 66 i &&& 255 = v 2 i := fun i hi => by
      rw [← hu, hby i hi]
      simp [am_up_eq]
    have u63 : ∀ j, u 63 j = v 63 j := fun j => by
      rw [← hu]
      simp [am_up_eq]
    refine en_X12_check rfl ?_
    intro P2 hP2
    ((repeat' first | refine hP2 _ ?_ | fail); try dsimp only)
    rw [show am_up v 1 1 0 62 6 = nI n by simp [am_up_eq]; exact hn2]
    refine ⟨fun _ => ?_, fun e => absurd q e⟩
    have pass : ∀ (i : Nat) (x : Int32), i < 4 → am_rem (v 63 (2 + i)) 256 = x → (x = v 2 i → P2 (cd_X12_check.drop 11, [some (.ref 62), some (.int (nI (i + 1)))], [], (am_sh, u, w), 0, 0)) → (¬ x = v 2 i → Q2 (some (.int (nI i))) (am_sh, u, w)) → P2 (cd_X12_check.drop 11, [some (.ref 62), some (.int (nI i))], [], (am_sh, u, w), 0, 0) := by
      intro i x hi hx k1 k2
      ((repeat' first | refine hP2 _ ?_ | fail); try dsimp only)
      refine ⟨fun c => absurd ((nI_leI (a := 4) (by omega) (by omega)).mp c) (by omega), fun _ => ?_⟩
      ((repeat' first | refine hP2 _ ?_ | fail); try dsimp only)
      refine m_X12_octet (by omega) ?_
      rw [u66 i (by omega)]
      ((repeat' first | refine hP2 _ ?_ | fail); try dsimp only)
      rw [show 2 + nI i = nI (2 + i) from nI_add 2 i]
      refine ⟨vp_in_nI (by omega) (by omega), ?_⟩
      ((repeat' first | refine hP2 _ ?_ | fail); try dsimp only)
      rw [nI_clamp (by omega)]
      refine ⟨by decide, ?_⟩
      ((repeat' first | refine hP2 _ ?_ | fail); try dsimp only)
      rw [u63, hx]
      refine ⟨fun c => ?_, fun c => ?_⟩
      · have e := k1 c.symm
        rw [← nI_1] at e
        ((iterate 2 refine hP2 _ ?_); try dsimp only)
        exact e
      · ((repeat' first | refine hP2 _ ?_ | fail); try dsimp only)
        exact k2 (fun z => c z.symm)
    ((iterate 5 refine hP2 _ ?_); try dsimp only)
    rw [hu]
    refine pass 0 (v 31 1) (by omega) (by rw [m3]; exact r256 _ r3) (fun c0 => ?_) (fun c0 => ?_)
    · refine pass 1 (v 32 1) (by omega) (by rw [m4]; exact r256 _ r4) (fun c1 => ?_) (fun c1 => ?_)
      · refine pass 2 (am_rem (v 31 2) 256) (by omega) (by rw [m5]) (fun c2 => ?_) (fun c2 => ?_)
        · refine pass 3 (am_rem (v 32 2) 256) (by omega) (by rw [m6]) (fun c3 => ?_) (fun c3 => ?_)
          · rw [f_chk, if_pos c0, if_pos c1, if_pos c2, if_pos c3] at hfin
            ((repeat' first | refine hP2 _ ?_ | fail); try dsimp only)
            refine ⟨fun _ => ?_, fun c => absurd (by decide) c⟩
            ((repeat' first | refine hP2 _ ?_ | fail); try dsimp only)
            exact hfin
          · rw [f_chk, if_pos c0, if_pos c1, if_pos c2, if_neg c3] at hfin
            exact hfin
        · rw [f_chk, if_pos c0, if_pos c1, if_neg c2] at hfin
          exact hfin
      · rw [f_chk, if_pos c0, if_neg c1] at hfin
        exact hfin
    · rw [f_chk, if_neg c0] at hfin
      exact hfin
  · rw [hn1] at q
    ((repeat' first | refine hP _ ?_ | refine ⟨fun c1 => absurd c1 (by decide), fun _ => ?_⟩ | refine ⟨fun _ => ?_, fun c1 => absurd c1 (by decide)⟩ | refine ⟨am_vin rfl, ?_⟩ | refine ⟨fun c1 => ?_, fun c1 => ?_⟩ | refine ⟨Or.inr rfl, ?_⟩ | refine ⟨Or.inl rfl, ?_⟩ | fail); all_goals (try dsimp only at *))
    refine h (-2) v w (fun Q2 h2 => ?_)
    refine en_X12_check rfl ?_
    intro P2 hP2
    ((repeat' first | refine hP2 _ ?_ | fail); try dsimp only)
    rw [hn2]
    refine ⟨fun z => absurd z (Int32.not_le.mpr q), fun _ => ?_⟩
    ((repeat' first | refine hP2 _ ?_ | refine ⟨fun c1 => absurd c1 (by decide), fun _ => ?_⟩ | refine ⟨fun _ => ?_, fun c1 => absurd c1 (by decide)⟩ | refine ⟨am_vin rfl, ?_⟩ | refine ⟨fun c1 => ?_, fun c1 => ?_⟩ | refine ⟨Or.inr rfl, ?_⟩ | refine ⟨Or.inl rfl, ?_⟩ | fail); all_goals (try dsimp only at *))
    exact h2 v w hI
