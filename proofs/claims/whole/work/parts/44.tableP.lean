/-! ===== pair: table ===== -/
theorem tbOk_r {n : Nat} (h1 : 2 ≤ n) (h2 : n ≤ 6) : tbOk n 720 (List.range n) = true := by
  have : n = 2 ∨ n = 3 ∨ n = 4 ∨ n = 5 ∨ n = 6 := by omega
  rcases this with rfl | rfl | rfl | rfl | rfl
  · exact tbOk_2
  · exact tbOk_3
  · exact tbOk_4
  · exact tbOk_5
  · exact tbOk_6
theorem tbf_range {n i : Nat} (hi : i < n) : tbf (List.range n) i = i := by
  unfold tbf
  simp [List.getD_eq_getElem?_getD, hi]
theorem am_100 {k : Int32} (h1 : 100 ≤ k) (h2 : k ≤ 101) : k = 100 ∨ k = 101 := by
  have a := Int32.le_iff_toInt_le.mp h1
  have b := Int32.le_iff_toInt_le.mp h2
  rw [show (100 : Int32).toInt = 100 from rfl] at a
  rw [show (101 : Int32).toInt = 101 from rfl] at b
  rcases (show k.toInt = 100 ∨ k.toInt = 101 by omega) with h | h
  · exact Or.inl (Int32.toInt_inj.mp h)
  · exact Or.inr (Int32.toInt_inj.mp h)
theorem iv_imp_tb : ∀ k, k ∈ iv_impL → k ≠ 43 ∧ k ≠ 59 ∧ k ≠ 60 ∧ k ≠ 1 ∧ k ≠ 62 ∧ k ≠ 102 ∧ k ≠ 103 := by decide
set_option maxRecDepth 100000 in
set_option maxHeartbeats 4000000 in
theorem pr_table {L : Nat} {xs : Nat → Int32} (a b : Int32) : am_pair L xs 123 225 [.int a, .int b] := by
  intro d v w Q hI h
  obtain ⟨tn, htn, htn1, htn2, hby⟩ := hI.2.2.2.1
  refine en_X11_table rfl ?_
  intro P hP
  have hR : ∀ {Q2 : Option Value → am_H → Prop}, (∀ (v2 : am_V) (w2 : am_X), INV v2 → Q2 (some (.int (-1))) (am_sh, v2, w2)) → ((a < 2 ∨ 6 < a) ∨ ((b < 0 ∨ a - 1 < b) ∧ (b < 100 ∨ 101 < b)) ∨ ¬ a ≤ nI tn) → am_run (am_kc L xs) am_idx am_m (d + 50) 225 [.ref 62, .int a, .int b] (am_sh, v, w) 0 0 Q2 := by
    intro Q2 h2 hbad
    refine en_X12_table rfl ?_
    intro P2 hP2
    ((repeat' first | refine hP2 _ ?_ | fail); try dsimp only)
    refine m_X12_in (fun a1 a2 => ?_) (fun _ => ?_)
    · have last : ((b < 0 ∨ a - 1 < b) ∧ (b < 100 ∨ 101 < b) → False) → P2 (cd_X12_table.drop 17, [some (.ref 62), some (.int a), some (.int b), none], [], (am_sh, v, w), 0, 0) := by
        intro hq
        ((repeat' first | refine hP2 _ ?_ | fail); try dsimp only)
        rw [htn2]
        rcases hbad with q | q | q
        · exact (am_no q a1 a2).elim
        · exact (hq q).elim
        · refine ⟨fun z => absurd z q, fun _ => ?_⟩
          ((repeat' first | refine hP2 _ ?_ | refine ⟨fun c1 => absurd c1 (by decide), fun _ => ?_⟩ | refine ⟨fun _ => ?_, fun c1 => absurd c1 (by decide)⟩ | refine ⟨am_vin rfl, ?_⟩ | refine ⟨fun c1 => ?_, fun c1 => ?_⟩ | refine ⟨Or.inr rfl, ?_⟩ | refine ⟨Or.inl rfl, ?_⟩ | fail); all_goals (try dsimp only at *))
          exact h2 v w hI
      ((repeat' first | refine hP2 _ ?_ | fail); try dsimp only)
      refine ⟨fun e => absurd e (by decide), fun _ => ?_⟩
      ((repeat' first | refine hP2 _ ?_ | fail); try dsimp only)
      refine m_X12_in (fun b1 b2 => ?_) (fun _ => ?_)
      · ((repeat' first | refine hP2 _ ?_ | fail); try dsimp only)
        refine ⟨fun _ => ?_, fun e => absurd e (by decide)⟩
        exact last (fun z => am_no z.1 b1 b2)
      · ((repeat' first | refine hP2 _ ?_ | fail); try dsimp only)
        refine ⟨fun e => absurd rfl e, fun _ => ?_⟩
        ((repeat' first | refine hP2 _ ?_ | fail); try dsimp only)
        refine m_X12_in (fun b1 b2 => ?_) (fun _ => ?_)
        · ((repeat' first | refine hP2 _ ?_ | fail); try dsimp only)
          refine ⟨fun e => absurd e (by decide), fun _ => ?_⟩
          exact last (fun z => am_no z.2 b1 b2)
        · ((repeat' first | refine hP2 _ ?_ | refine ⟨fun c1 => absurd c1 (by decide), fun _ => ?_⟩ | refine ⟨fun _ => ?_, fun c1 => absurd c1 (by decide)⟩ | refine ⟨am_vin rfl, ?_⟩ | refine ⟨fun c1 => ?_, fun c1 => ?_⟩ | refine ⟨Or.inr rfl, ?_⟩ | refine ⟨Or.inl rfl, ?_⟩ | fail); all_goals (try dsimp only at *))
          exact h2 v w hI
    · ((repeat' first | refine hP2 _ ?_ | refine ⟨fun c1 => absurd c1 (by decide), fun _ => ?_⟩ | refine ⟨fun _ => ?_, fun c1 => absurd c1 (by decide)⟩ | refine ⟨am_vin rfl, ?_⟩ | refine ⟨fun c1 => ?_, fun c1 => ?_⟩ | refine ⟨Or.inr rfl, ?_⟩ | refine ⟨Or.inl rfl, ?_⟩ | fail); all_goals (try dsimp only at *))
      exact h2 v w hI
  ((repeat' first | refine hP _ ?_ | fail); try dsimp only)
  refine m_X11_outside (fun q => ?_) (fun a1 a2 => ?_)
  · ((repeat' first | refine hP _ ?_ | refine ⟨fun c1 => absurd c1 (by decide), fun _ => ?_⟩ | refine ⟨fun _ => ?_, fun c1 => absurd c1 (by decide)⟩ | refine ⟨am_vin rfl, ?_⟩ | refine ⟨fun c1 => ?_, fun c1 => ?_⟩ | refine ⟨Or.inr rfl, ?_⟩ | refine ⟨Or.inl rfl, ?_⟩ | fail); all_goals (try dsimp only at *))
    exact h (-1) v w (fun Q2 h2 => hR h2 (Or.inl q))
  obtain ⟨n, hn2, rfl⟩ := am_nat (Int32.le_trans (by decide) a1) a2 (n := 6) rfl
  have hn1 : 2 ≤ n := (nI_leI (a := 2) (by omega) (by omega)).mp a1
  have hn : 2 ≤ n ∧ n ≤ 6 := ⟨hn1, hn2⟩
  -- the good case
  have good : ((0 ≤ b ∧ b ≤ nI n - 1) ∨ (100 ≤ b ∧ b ≤ 101)) → P (cd_X11_table.drop 17, [some (.ref 0), some (.int (nI n)), some (.int b)], [], (am_sh, v, w), 0, 0) := by
    intro hb
    ((repeat' first | refine hP _ ?_ | fail); try dsimp only)
    refine m_X8_has (fun q => ?_) (fun q => ?_)
    · rw [htn1] at q
      have hle : n ≤ tn := (nI_leI (by omega) (by omega)).mp q
      ((repeat' first | refine hP _ ?_ | fail); try dsimp only)
      refine ⟨fun _ => ?_, fun e => absurd e (by decide)⟩
      ((repeat' first | refine hP _ ?_ | fail); try dsimp only)
      refine m_seatAll (t := tpN v) (l0 := List.range n) hn (tpN_lt v) htn1 htn hle (fun j hj => (hby j hj).trans (tpN_eq v j)) (tbOk_r hn1 hn2) (fun i hi => tbf_range hi) (fun v1 w0 m0 bb hres h8 h9 hs hw0 hm0 hfr => ?_)
      ((repeat' first | refine hP _ ?_ | fail); try dsimp only)
      refine m_X8_clear ?_
      have u8 : am_up v1 1 1 0 43 8 = nI w0 := by simp [am_up_eq]; exact h8
      have u9 : am_up v1 1 1 0 43 9 = nI m0 := by simp [am_up_eq]; exact h9
      have fr : ∀ (k j : Nat), k ≠ 43 → k ≠ 59 → k ≠ 60 → k ≠ 1 → am_up v1 1 1 0 k j = v k j := fun k j q1 q2 q3 q4 => by rw [am_up_ne _ _ _ q4, hfr k q1 q2 q3]
      have fin : ∀ r : Int32, (∀ (v2 : am_V) (P2 : am_C → Prop) (Q2 : Option Value → am_H → Prop) (l3 : Option Value), (∀ q, am_step (am_kc L xs) am_idx (am_run (am_kc L xs) am_idx am_m (d + 49)) cd_X12_table 0 0 Q2 P2 q → P2 q) → v2 62 59 = nI w0 → v2 62 60 = nI m0 → (0 < w0 → seR v2 103 n (tbf bb)) → Q2 (some (.int r)) (am_sh, v2, w) → P2 (cd_X12_table.drop 56, [some (.ref 62), some (.int (nI n)), some (.int b), l3], [], (am_sh, v2, w), 0, 0)) → Q (some (.int r)) (am_sh, am_up v1 1 1 0, w) := by
        intro r hr
        refine h r _ w (fun Q2 h2 => ?_)
        refine en_X12_table rfl ?_
        intro P2 hP2
        -- the loop
        have loop : P2 (cd_X12_table.drop 46, [some (.ref 62), some (.int (nI n)), some (.int b), some (.int 1)], [], (am_sh, (fun k j => if k = 102 ∧ j < n then nI j else am_up (am_up (am_up (am_up v1 1 1 0) 62 6 0) 62 59 0) 62 60 1000000 k j), w), 0, 0) := by
          refine lp_table2 (t := tpN v) (r0 := tbRes (tpN v) n 720 (List.range n) 0 1000000 []) (v := am_up (am_up v1 1 1 0) 62 6 0) hn (tpN_lt v) (fun j hj => ?_) hP2 (fun v' l3 g59 g60 gs gfr gfr2 => ?_) 720 _ (List.range n) [] 0 1000000 (by omega) (by omega) (tbOk_r hn1 hn2) (fun i hi => ?_) ?_ ?_ (fun q => absurd q (by omega)) (by omega) (fun k q1 q2 q3 => ?_) (fun j q1 q2 => ?_) rfl
          · rw [am_up_ne _ _ _ (by decide), fr 66 j (by decide) (by decide) (by decide) (by decide)]
            exact tpN_eq v j
          · have e0 : tbRes (tpN v) n 720 (List.range n) 0 1000000 [] = (w0, m0, bb) := by
              rw [← hres]
              have hbl : tbB (tpN v) (tbf (List.range n)) n n ≤ n := tbB_le _ _ n n
              exact tbRes_m (by omega) hbl
            rw [e0] at g59 g60 gs
            refine hr v' P2 Q2 l3 hP2 g59 g60 gs (h2 v' w (hI.clr (fun k hk => ?_) (fun j hj => ?_) ?_ ?_))
            · obtain ⟨y1, y2, y3, y4, y5, y6, y7⟩ := iv_imp_tb k hk
              rw [gfr k y5 y6 y7, am_up_ne _ _ _ y5]
              funext j
              exact fr k j y1 y2 y3 y4
            · have : j ≠ 6 ∧ j ≠ 59 ∧ j ≠ 60 := by
                refine ⟨?_, ?_, ?_⟩ <;> (intro z; rw [z] at hj; revert hj; decide)
              rw [gfr2 j this.2.1 this.2.2, am_up_eq, if_neg (fun z => this.1 z.2)]
              exact fr 62 j (by decide) (by decide) (by decide) (by decide)
            · rw [gfr 1 (by decide) (by decide) (by decide), am_up_ne _ _ _ (by decide)]
              simp [am_up_eq]
            · rw [gfr2 6 (by decide) (by decide)]
              simp [am_up_eq]
          · rw [if_pos ⟨rfl, hi⟩, tbf_range hi]
            exact ⟨rfl, by omega⟩
          · simp [am_up_eq]; rfl
          · simp [am_up_eq]; rfl
          · funext j
            rw [if_neg (fun z => q2 z.1), am_up_ne _ _ _ q1, am_up_ne _ _ _ q1]
          · rw [if_neg (fun z => absurd z.1 (by decide)), am_up_eq, if_neg (fun z => q2 z.2), am_up_eq, if_neg (fun z => q1 z.2)]
        have fill : ∀ (k i : Nat) (u : am_V), i + k = n → u = (fun k j => if k = 102 ∧ j < i then nI j else am_up (am_up (am_up (am_up v1 1 1 0) 62 6 0) 62 59 0) 62 60 1000000 k j) → P2 (cd_X12_table.drop 34, [some (.ref 62), some (.int (nI n)), some (.int b), some (.int (nI i))], [], (am_sh, u, w), 0, 0) := by
          intro k
          induction k with
          | zero =>
            intro i u hi hu
            rw [show i = n by omega] at hu
            rw [hu, show i = n by omega]
            ((repeat' first | refine hP2 _ ?_ | fail); try dsimp only)
            refine ⟨fun _ => ?_, fun z => absurd (Int32.le_refl _) z⟩
            ((iterate 2 refine hP2 _ ?_); try dsimp only)
            exact loop
          | succ k ih =>
            intro i u hi hu
            ((repeat' first | refine hP2 _ ?_ | fail); try dsimp only)
            refine ⟨fun z => absurd z (nI_ge (by omega) (by omega)), fun _ => ?_⟩
            ((repeat' first | refine hP2 _ ?_ | fail); try dsimp only)
            refine ⟨vp_in_nI (by omega) (by omega), ?_⟩
            dsimp only
            rw [nI_clamp (by omega)]
            have e := ih (i + 1) (am_up u 102 i (nI i)) (by omega) (by
              funext x y
              rw [am_up_eq, hu]
              dsimp only
              by_cases q1 : x = 102
              · by_cases q2 : y = i
                · rw [if_pos ⟨q1, q2⟩, if_pos ⟨q1, by omega⟩, q2]
                · rw [if_neg (fun z => q2 z.2)]
                  by_cases q3 : y < i
                  · rw [if_pos ⟨q1, q3⟩, if_pos ⟨q1, by omega⟩]
                  · rw [if_neg (fun z => q3 z.2), if_neg (fun z => q3 (by omega))]
              · rw [if_neg (fun z => q1 z.1), if_neg (fun z => q1 z.1), if_neg (fun z => q1 z.1)])
            rw [← nI_1] at e
            ((iterate 2 refine hP2 _ ?_); try dsimp only)
            exact e
        have start := fill n 0 (am_up (am_up (am_up (am_up v1 1 1 0) 62 6 0) 62 59 0) 62 60 1000000) (by omega) (by
          funext x y
          rw [if_neg (fun z => absurd z.2 (by omega))])
        have good2 : P2 (cd_X12_table.drop 17, [some (.ref 62), some (.int (nI n)), some (.int b), none], [], (am_sh, am_up v1 1 1 0, w), 0, 0) := by
          ((repeat' first | refine hP2 _ ?_ | fail); try dsimp only)
          rw [show am_up v1 1 1 0 62 6 = nI tn by rw [fr 62 6 (by decide) (by decide) (by decide) (by decide)]; exact htn2]
          refine ⟨fun _ => ?_, fun z => absurd q z⟩
          ((iterate 11 refine hP2 _ ?_); try dsimp only)
          exact start
        ((repeat' first | refine hP2 _ ?_ | fail); try dsimp only)
        refine m_X12_in1 a1 a2 ?_
        ((repeat' first | refine hP2 _ ?_ | fail); try dsimp only)
        refine ⟨fun e => absurd e (by decide), fun _ => ?_⟩
        ((repeat' first | refine hP2 _ ?_ | fail); try dsimp only)
        refine m_X12_in (fun b1 b2 => ?_) (fun z => ?_)
        · ((repeat' first | refine hP2 _ ?_ | fail); try dsimp only)
          refine ⟨fun _ => good2, fun e => absurd e (by decide)⟩
        · ((repeat' first | refine hP2 _ ?_ | fail); try dsimp only)
          refine ⟨fun e => absurd rfl e, fun _ => ?_⟩
          ((repeat' first | refine hP2 _ ?_ | fail); try dsimp only)
          refine m_X12_in (fun b1 b2 => ?_) (fun z2 => ?_)
          · ((repeat' first | refine hP2 _ ?_ | fail); try dsimp only)
            refine ⟨fun e => absurd e (by decide), fun _ => good2⟩
          · rcases hb with y | y
            · exact (am_no z y.1 y.2).elim
            · exact (am_no z2 y.1 y.2).elim
      ((repeat' first | refine hP _ ?_ | fail); try dsimp only)
      refine ⟨fun e => ?_, fun e => ⟨fun e2 => ?_, fun e2 => ?_⟩⟩
      · replace e : b = 100 := e
        subst e
        ((repeat' first | refine hP _ ?_ | refine ⟨fun c1 => absurd c1 (by decide), fun _ => ?_⟩ | refine ⟨fun _ => ?_, fun c1 => absurd c1 (by decide)⟩ | refine ⟨am_vin rfl, ?_⟩ | refine ⟨fun c1 => ?_, fun c1 => ?_⟩ | refine ⟨Or.inr rfl, ?_⟩ | refine ⟨Or.inl rfl, ?_⟩ | fail); all_goals (try dsimp only at *))
        refine am_qr u8 rfl (fin _ (fun v2 P2 Q2 l3 hP2 g59 g60 gs hq => ?_))
        ((repeat' first | refine hP2 _ ?_ | refine ⟨fun c1 => absurd c1 (by decide), fun _ => ?_⟩ | refine ⟨fun _ => ?_, fun c1 => absurd c1 (by decide)⟩ | refine ⟨am_vin rfl, ?_⟩ | refine ⟨fun c1 => ?_, fun c1 => ?_⟩ | refine ⟨Or.inr rfl, ?_⟩ | refine ⟨Or.inl rfl, ?_⟩ | fail); all_goals (try dsimp only at *))
        exact am_qr g59 rfl hq
      · replace e2 : b = 101 := e2
        subst e2
        ((repeat' first | refine hP _ ?_ | refine ⟨fun c1 => absurd c1 (by decide), fun _ => ?_⟩ | refine ⟨fun _ => ?_, fun c1 => absurd c1 (by decide)⟩ | refine ⟨am_vin rfl, ?_⟩ | refine ⟨fun c1 => ?_, fun c1 => ?_⟩ | refine ⟨Or.inr rfl, ?_⟩ | refine ⟨Or.inl rfl, ?_⟩ | fail); all_goals (try dsimp only at *))
        refine am_qr u9 rfl (fin _ (fun v2 P2 Q2 l3 hP2 g59 g60 gs hq => ?_))
        ((repeat' first | refine hP2 _ ?_ | refine ⟨fun c1 => absurd c1 (by decide), fun _ => ?_⟩ | refine ⟨fun _ => ?_, fun c1 => absurd c1 (by decide)⟩ | refine ⟨am_vin rfl, ?_⟩ | refine ⟨fun c1 => ?_, fun c1 => ?_⟩ | refine ⟨Or.inr rfl, ?_⟩ | refine ⟨Or.inl rfl, ?_⟩ | fail); all_goals (try dsimp only at *))
        exact am_qr g60 rfl hq
      · replace e : ¬ b = 100 := e
        replace e2 : ¬ b = 101 := e2
        have hb2 : 0 ≤ b ∧ b ≤ nI n - 1 := by
          rcases hb with y | y
          · exact y
          · exfalso
            rcases am_100 y.1 y.2 with z | z
            · exact e z
            · exact e2 z
        rw [show nI n - 1 = nI (n - 1) from pk_sub (b := 1) (by omega)] at hb2
        obtain ⟨j, hj, rfl⟩ := am_nat hb2.1 hb2.2 (n := n - 1) (nI_toInt (by omega))
        ((repeat' first | refine hP _ ?_ | fail); try dsimp only)
        rw [u8]
        by_cases hw : w0 = 0
        · subst hw
          refine ⟨fun c => absurd rfl c, fun _ => ?_⟩
          ((repeat' first | refine hP _ ?_ | fail); try dsimp only)
          refine fin _ (fun v2 P2 Q2 l3 hP2 g59 g60 gs hq => ?_)
          ((repeat' first | refine hP2 _ ?_ | fail); try dsimp only)
          refine ⟨fun _ => ?_, fun c => absurd (nI_lt (a := j) (b := 100) (by omega) (by omega)) c⟩
          ((repeat' first | refine hP2 _ ?_ | fail); try dsimp only)
          rw [g59]
          refine ⟨fun c => absurd rfl c, fun _ => ?_⟩
          ((repeat' first | refine hP2 _ ?_ | fail); try dsimp only)
          exact hq
        · have hw2 : ¬ nI w0 = 0 := fun c => hw ((nI_eq (b := 0) (by omega) (by omega)).mp c)
          refine ⟨fun _ => ?_, fun c => absurd c hw2⟩
          ((repeat' first | refine hP _ ?_ | fail); try dsimp only)
          refine en_X0_seatedBehind rfl ?_
          intro P3 hP3
          ((repeat' first | refine hP3 _ ?_ | fail); try dsimp only)
          refine ⟨fun c => absurd c (Int32.not_lt.mpr hb2.1), fun _ => ?_⟩
          ((repeat' first | refine hP3 _ ?_ | fail); try dsimp only)
          refine ⟨fun c => absurd ((nI_leI (a := 6) (by omega) (by omega)).mp c) (by omega), fun _ => ?_⟩
          ((repeat' first | refine hP3 _ ?_ | fail); try dsimp only)
          refine ⟨vp_in_nI (by omega) (by omega), ?_⟩
          ((repeat' first | refine hP3 _ ?_ | fail); try dsimp only)
          rw [nI_clamp (by omega)]
          ((repeat' first | refine hP _ ?_ | fail); try dsimp only)
          have e60 : am_up v1 1 1 0 60 j = nI (tbf bb j) := by
            rw [am_up_ne _ _ _ (by decide)]
            exact (hs (by omega) j (by omega)).1
          refine am_qr e60 rfl (fin _ (fun v2 P2 Q2 l3 hP2 g59 g60 gs hq => ?_))
          ((repeat' first | refine hP2 _ ?_ | fail); try dsimp only)
          refine ⟨fun _ => ?_, fun c => absurd (nI_lt (a := j) (b := 100) (by omega) (by omega)) c⟩
          ((repeat' first | refine hP2 _ ?_ | fail); try dsimp only)
          rw [g59]
          refine ⟨fun _ => ?_, fun c => absurd c hw2⟩
          ((repeat' first | refine hP2 _ ?_ | fail); try dsimp only)
          refine ⟨vp_in_nI (by omega) (by omega), ?_⟩
          ((repeat' first | refine hP2 _ ?_ | fail); try dsimp only)
          rw [nI_clamp (by omega)]
          exact am_qr (gs (by omega) j (by omega)).1 rfl hq
    · rw [htn1] at q
      ((repeat' first | refine hP _ ?_ | refine ⟨fun c1 => absurd c1 (by decide), fun _ => ?_⟩ | refine ⟨fun _ => ?_, fun c1 => absurd c1 (by decide)⟩ | refine ⟨am_vin rfl, ?_⟩ | refine ⟨fun c1 => ?_, fun c1 => ?_⟩ | refine ⟨Or.inr rfl, ?_⟩ | refine ⟨Or.inl rfl, ?_⟩ | fail); all_goals (try dsimp only at *))
      exact h (-1) v w (fun Q2 h2 => hR h2 (Or.inr (Or.inr (Int32.not_le.mpr q))))
  ((repeat' first | refine hP _ ?_ | fail); try dsimp only)
  refine ⟨fun e => absurd rfl e, fun _ => ?_⟩
  ((repeat' first | refine hP _ ?_ | fail); try dsimp only)
  refine m_X11_outside (fun q => ?_) (fun b1 b2 => ?_)
  · ((repeat' first | refine hP _ ?_ | fail); try dsimp only)
    refine ⟨fun e => absurd e (by decide), fun _ => ?_⟩
    ((repeat' first | refine hP _ ?_ | fail); try dsimp only)
    refine m_X11_outside (fun q2 => ?_) (fun b1 b2 => ?_)
    · ((repeat' first | refine hP _ ?_ | refine ⟨fun c1 => absurd c1 (by decide), fun _ => ?_⟩ | refine ⟨fun _ => ?_, fun c1 => absurd c1 (by decide)⟩ | refine ⟨am_vin rfl, ?_⟩ | refine ⟨fun c1 => ?_, fun c1 => ?_⟩ | refine ⟨Or.inr rfl, ?_⟩ | refine ⟨Or.inl rfl, ?_⟩ | fail); all_goals (try dsimp only at *))
      exact h (-1) v w (fun Q2 h2 => hR h2 (Or.inr (Or.inl ⟨q, q2⟩)))
    · ((repeat' first | refine hP _ ?_ | fail); try dsimp only)
      refine ⟨fun e => absurd rfl e, fun _ => ?_⟩
      exact good (Or.inr ⟨b1, b2⟩)
  · ((repeat' first | refine hP _ ?_ | fail); try dsimp only)
    refine ⟨fun _ => ?_, fun e => absurd rfl e⟩
    exact good (Or.inl ⟨b1, b2⟩)
