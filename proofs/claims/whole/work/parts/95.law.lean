/-! ===== the law's loop ===== -/
theorem lw_ix {i L k : Nat} {x : Int32} (h : i + 6 ≤ L) (hL : L ≤ 3072) (hk : k < 6) (hx : x = nI k) : vp_in (nI i + x) L := by
  rw [hx]
  have : nI i + nI k = nI (i + k) := nI_add _ _
  rw [this]
  exact vp_in_nI (by omega) (by omega)
theorem lw_ix0 {i L : Nat} (h : i + 6 ≤ L) (hL : L ≤ 3072) : vp_in (nI i) L := vp_in_nI (by omega) (by omega)
theorem lw_gt {i L : Nat} (hi : i ≤ 4000) (hL : L ≤ 3072) (h : ¬ nI L - 6 < nI i) : i + 6 ≤ L := by
  rcases Nat.lt_or_ge L (i + 6) with q | q
  · refine absurd ?_ h
    rw [Int32.lt_iff_toInt_lt, Int32.toInt_sub]
    rw [nI_toInt (by omega), nI_toInt (by omega)]
    rw [show (6 : Int32).toInt = 6 from rfl, Int.bmod_eq_of_le (by omega) (by omega)]
    omega
  · exact q
def lw_pairs (L : Nat) (xs : Nat → Int32) : Prop := (∀ a b c : Int32, iv_bit c → am_pair L xs 103 147 [.int a, .int b, .int c]) ∧ (∀ a b : Int32, am_pair L xs 104 148 [.int a, .int b]) ∧ (∀ a b c d e : Int32, am_pair L xs 105 150 [.int a, .int b, .int c, .int d, .int e]) ∧ (∀ a : Int32, am_pair L xs 106 173 [.int a]) ∧ (∀ a : Int32, am_pair L xs 107 182 [.int a]) ∧ (∀ a : Int32, am_pair L xs 108 200 [.int a]) ∧ (∀ a : Int32, am_pair L xs 109 192 [.int a]) ∧ (∀ a b : Int32, am_pair L xs 110 193 [.int a, .int b]) ∧ (∀ a b : Int32, am_pair L xs 111 194 [.int a, .int b]) ∧ (∀ a b : Int32, am_pair L xs 112 195 [.int a, .int b]) ∧ (∀ a b : Int32, am_pair L xs 113 196 [.int a, .int b]) ∧ (∀ a : Int32, am_pair L xs 114 197 [.int a]) ∧ (∀ a b : Int32, am_pair L xs 115 198 [.int a, .int b]) ∧ (∀ a : Int32, am_pair L xs 116 205 [.int a]) ∧ (∀ a b : Int32, am_pair L xs 117 208 [.int a, .int b]) ∧ (∀ a b : Int32, am_pair L xs 118 213 [.int a, .int b]) ∧ (∀ a b : Int32, am_pair L xs 119 214 [.int a, .int b]) ∧ (∀ a b c : Int32, am_pair L xs 120 215 [.int a, .int b, .int c]) ∧ (∀ a b : Int32, am_pair L xs 121 218 [.int a, .int b]) ∧ (∀ a b c d : Int32, am_pair L xs 122 220 [.int a, .int b, .int c, .int d]) ∧ (∀ a b : Int32, am_pair L xs 123 225 [.int a, .int b]) ∧ (∀ a b c d : Int32, am_pair L xs 124 226 [.int a, .int b, .int c, .int d]) ∧ (∀ a b : Int32, am_pair L xs 125 227 [.int a, .int b]) ∧ (∀ a b c : Int32, am_pairL L xs 126 228 [.int a, .int b, .int c]) ∧ (∀ a b : Int32, am_pair L xs 127 229 [.int a, .int b]) ∧ (∀ a : Int32, am_pair L xs 128 230 [.int a]) ∧ (am_pair L xs 129 231 []) ∧ (am_pair L xs 130 232 []) ∧ (am_pair L xs 131 233 []) ∧ (∀ a : Int32, am_pair L xs 132 234 [.int a])
theorem lw_cmp (r : Int64) : lg_cmp r r = 0 := by
  unfold lg_cmp
  simp
set_option maxRecDepth 100000 in
set_option maxHeartbeats 4000000 in
theorem lw_loop {L : Nat} {xs : Nat → Int32} (hL : L ≤ 3072) (HP : lw_pairs L xs) {d mc ms : Nat} {Q : Option Value → am_H → Prop} {P : am_C → Prop} (hP : ∀ c, am_step (am_kc L xs) am_idx (am_run (am_kc L xs) am_idx am_m (d + 50)) cd_L mc ms Q P c → P c) (hQ : ∀ hp : am_H, Q (some (.int 1)) hp) : ∀ (n i : Nat) (v : am_V) (w : am_X) (nc ns : Nat), i ≤ 4000 → L + 6 ≤ i + n → INV v → P (cd_L.drop 10, [some (.ref 1000), some (.ref 0), some (.ref 62), some (.int (nI i))], [], (am_sh, v, w), nc, ns) := by
  intro n
  induction n with
  | zero =>
    intro i v w nc ns hi h hI
    ((repeat' first | refine hP _ ?_ | fail); try dsimp only)
    refine ⟨fun _ => ?_, fun c1 => absurd (lw_gt hi hL c1) (by omega)⟩
    ((repeat' first | refine hP _ ?_ | fail); try dsimp only)
    exact ⟨Or.inr rfl, hQ _⟩
  | succ n ih =>
    intro i v w nc ns hi h hI
    ((repeat' first | refine hP _ ?_ | fail); try dsimp only)
    refine ⟨fun _ => ?_, fun c1 => ?_⟩
    · ((repeat' first | refine hP _ ?_ | fail); try dsimp only)
      exact ⟨Or.inr rfl, hQ _⟩
    · have hb := lw_gt hi hL c1
      have hgo : ∀ (v2 : am_V) (w2 : am_X) (nc ns : Nat), INV v2 → P (cd_L.drop 10, [some (.ref 1000), some (.ref 0), some (.ref 62), some (.int (nI i + 6))], [], (am_sh, v2, w2), nc, ns) := by
        intro v2 w2 nc ns hI2
        have e6 : nI i + 6 = nI (i + 6) := nI_add i 6
        rw [e6]
        exact ih (i + 6) v2 w2 nc ns (by omega) (by omega) hI2
      ((repeat' first | refine hP _ ?_ | fail); try dsimp only)
      refine ⟨lw_ix0 hb hL, ?_⟩
      ((repeat' first | refine hP _ ?_ | fail); try dsimp only)
      refine ⟨⟨fun _ => ?_, fun _ => ?_, fun _ => ?_, fun _ => ?_, fun _ => ?_, fun _ => ?_, fun _ => ?_, fun _ => ?_, fun _ => ?_, fun _ => ?_, fun _ => ?_, fun _ => ?_, fun _ => ?_, fun _ => ?_, fun _ => ?_, fun _ => ?_, fun _ => ?_, fun _ => ?_, fun _ => ?_, fun _ => ?_, fun _ => ?_, fun _ => ?_, fun _ => ?_, fun _ => ?_, fun _ => ?_, fun _ => ?_, fun _ => ?_, fun _ => ?_, fun _ => ?_, fun _ => ?_, trivial⟩, fun _ => ?_⟩
      · ((repeat' first | refine hP _ ?_ | fail); try dsimp only)
        refine ⟨lw_ix hb hL (k := 1) (by decide) rfl, ?_⟩
        ((repeat' first | refine hP _ ?_ | fail); try dsimp only)
        refine ⟨lw_ix hb hL (k := 2) (by decide) rfl, ?_⟩
        ((repeat' first | refine hP _ ?_ | fail); try dsimp only)
        refine ⟨lw_ix hb hL (k := 3) (by decide) rfl, ?_⟩
        ((repeat' first | refine hP _ ?_ | fail); try dsimp only)
        refine ⟨fun e1 => ?_, fun e1 => ?_⟩
        · ((repeat' first | refine hP _ ?_ | fail); try dsimp only)
          refine HP.1 _ _ 0 (Or.inl rfl) d v w _ hI (fun r v1 w1 hR => ?_)
          ((repeat' first | refine hP _ ?_ | fail); try dsimp only)
          refine ⟨lw_ix hb hL (k := 1) (by decide) rfl, ?_⟩
          ((repeat' first | refine hP _ ?_ | fail); try dsimp only)
          refine ⟨lw_ix hb hL (k := 2) (by decide) rfl, ?_⟩
          ((repeat' first | refine hP _ ?_ | fail); try dsimp only)
          refine ⟨lw_ix hb hL (k := 3) (by decide) rfl, ?_⟩
          ((repeat' first | refine hP _ ?_ | fail); try dsimp only)
          refine ⟨fun _ => ?_, fun e2 => absurd e1 e2⟩
          ((repeat' first | refine hP _ ?_ | fail); try dsimp only)
          refine hR _ (fun v2 w2 hI2 => ?_)
          ((repeat' first | refine hP _ ?_ | fail); try dsimp only)
          refine ⟨fun _ => ?_, fun e3 => absurd rfl e3⟩
          repeat' first | exact hgo v2 w2 _ _ hI2 | refine hP _ ?_ | fail
        · ((repeat' first | refine hP _ ?_ | fail); try dsimp only)
          refine HP.1 _ _ 1 (Or.inr rfl) d v w _ hI (fun r v1 w1 hR => ?_)
          ((repeat' first | refine hP _ ?_ | fail); try dsimp only)
          refine ⟨lw_ix hb hL (k := 1) (by decide) rfl, ?_⟩
          ((repeat' first | refine hP _ ?_ | fail); try dsimp only)
          refine ⟨lw_ix hb hL (k := 2) (by decide) rfl, ?_⟩
          ((repeat' first | refine hP _ ?_ | fail); try dsimp only)
          refine ⟨lw_ix hb hL (k := 3) (by decide) rfl, ?_⟩
          ((repeat' first | refine hP _ ?_ | fail); try dsimp only)
          refine ⟨fun e2 => absurd e2 e1, fun _ => ?_⟩
          ((repeat' first | refine hP _ ?_ | fail); try dsimp only)
          refine hR _ (fun v2 w2 hI2 => ?_)
          ((repeat' first | refine hP _ ?_ | fail); try dsimp only)
          refine ⟨fun _ => ?_, fun e3 => absurd rfl e3⟩
          repeat' first | exact hgo v2 w2 _ _ hI2 | refine hP _ ?_ | fail
      · ((repeat' first | refine hP _ ?_ | fail); try dsimp only)
        refine ⟨lw_ix hb hL (k := 1) (by decide) rfl, ?_⟩
        ((repeat' first | refine hP _ ?_ | fail); try dsimp only)
        refine ⟨lw_ix hb hL (k := 2) (by decide) rfl, ?_⟩
        ((repeat' first | refine hP _ ?_ | fail); try dsimp only)
        refine HP.2.1 _ _ d v w _ hI (fun r v1 w1 hR => ?_)
        ((repeat' first | refine hP _ ?_ | fail); try dsimp only)
        refine ⟨lw_ix hb hL (k := 1) (by decide) rfl, ?_⟩
        ((repeat' first | refine hP _ ?_ | fail); try dsimp only)
        refine ⟨lw_ix hb hL (k := 2) (by decide) rfl, ?_⟩
        ((repeat' first | refine hP _ ?_ | fail); try dsimp only)
        refine hR _ (fun v2 w2 hI2 => ?_)
        ((repeat' first | refine hP _ ?_ | fail); try dsimp only)
        refine ⟨fun _ => ?_, fun e3 => absurd rfl e3⟩
        repeat' first | exact hgo v2 w2 _ _ hI2 | refine hP _ ?_ | fail
      · ((repeat' first | refine hP _ ?_ | fail); try dsimp only)
        refine ⟨lw_ix hb hL (k := 1) (by decide) rfl, ?_⟩
        ((repeat' first | refine hP _ ?_ | fail); try dsimp only)
        refine ⟨lw_ix hb hL (k := 2) (by decide) rfl, ?_⟩
        ((repeat' first | refine hP _ ?_ | fail); try dsimp only)
        refine ⟨lw_ix hb hL (k := 3) (by decide) rfl, ?_⟩
        ((repeat' first | refine hP _ ?_ | fail); try dsimp only)
        refine ⟨lw_ix hb hL (k := 4) (by decide) rfl, ?_⟩
        ((repeat' first | refine hP _ ?_ | fail); try dsimp only)
        refine ⟨lw_ix hb hL (k := 5) (by decide) rfl, ?_⟩
        ((repeat' first | refine hP _ ?_ | fail); try dsimp only)
        refine HP.2.2.1 _ _ _ _ _ d v w _ hI (fun r v1 w1 hR => ?_)
        ((repeat' first | refine hP _ ?_ | fail); try dsimp only)
        refine ⟨lw_ix hb hL (k := 1) (by decide) rfl, ?_⟩
        ((repeat' first | refine hP _ ?_ | fail); try dsimp only)
        refine ⟨lw_ix hb hL (k := 2) (by decide) rfl, ?_⟩
        ((repeat' first | refine hP _ ?_ | fail); try dsimp only)
        refine ⟨lw_ix hb hL (k := 3) (by decide) rfl, ?_⟩
        ((repeat' first | refine hP _ ?_ | fail); try dsimp only)
        refine ⟨lw_ix hb hL (k := 4) (by decide) rfl, ?_⟩
        ((repeat' first | refine hP _ ?_ | fail); try dsimp only)
        refine ⟨lw_ix hb hL (k := 5) (by decide) rfl, ?_⟩
        ((repeat' first | refine hP _ ?_ | fail); try dsimp only)
        refine hR _ (fun v2 w2 hI2 => ?_)
        ((repeat' first | refine hP _ ?_ | fail); try dsimp only)
        refine ⟨fun _ => ?_, fun e3 => absurd rfl e3⟩
        repeat' first | exact hgo v2 w2 _ _ hI2 | refine hP _ ?_ | fail
      · ((repeat' first | refine hP _ ?_ | fail); try dsimp only)
        refine ⟨lw_ix hb hL (k := 1) (by decide) rfl, ?_⟩
        ((repeat' first | refine hP _ ?_ | fail); try dsimp only)
        refine HP.2.2.2.1 _ d v w _ hI (fun r v1 w1 hR => ?_)
        ((repeat' first | refine hP _ ?_ | fail); try dsimp only)
        refine ⟨lw_ix hb hL (k := 1) (by decide) rfl, ?_⟩
        ((repeat' first | refine hP _ ?_ | fail); try dsimp only)
        refine hR _ (fun v2 w2 hI2 => ?_)
        ((repeat' first | refine hP _ ?_ | fail); try dsimp only)
        refine ⟨fun _ => ?_, fun e3 => absurd rfl e3⟩
        repeat' first | exact hgo v2 w2 _ _ hI2 | refine hP _ ?_ | fail
      · ((repeat' first | refine hP _ ?_ | fail); try dsimp only)
        refine ⟨lw_ix hb hL (k := 1) (by decide) rfl, ?_⟩
        ((repeat' first | refine hP _ ?_ | fail); try dsimp only)
        refine HP.2.2.2.2.1 _ d v w _ hI (fun r v1 w1 hR => ?_)
        ((repeat' first | refine hP _ ?_ | fail); try dsimp only)
        refine ⟨lw_ix hb hL (k := 1) (by decide) rfl, ?_⟩
        ((repeat' first | refine hP _ ?_ | fail); try dsimp only)
        refine hR _ (fun v2 w2 hI2 => ?_)
        ((repeat' first | refine hP _ ?_ | fail); try dsimp only)
        refine ⟨fun _ => ?_, fun e3 => absurd rfl e3⟩
        repeat' first | exact hgo v2 w2 _ _ hI2 | refine hP _ ?_ | fail
      · ((repeat' first | refine hP _ ?_ | fail); try dsimp only)
        refine ⟨lw_ix hb hL (k := 1) (by decide) rfl, ?_⟩
        ((repeat' first | refine hP _ ?_ | fail); try dsimp only)
        refine HP.2.2.2.2.2.1 _ d v w _ hI (fun r v1 w1 hR => ?_)
        ((repeat' first | refine hP _ ?_ | fail); try dsimp only)
        refine ⟨lw_ix hb hL (k := 1) (by decide) rfl, ?_⟩
        ((repeat' first | refine hP _ ?_ | fail); try dsimp only)
        refine hR _ (fun v2 w2 hI2 => ?_)
        ((repeat' first | refine hP _ ?_ | fail); try dsimp only)
        refine ⟨fun _ => ?_, fun e3 => absurd rfl e3⟩
        repeat' first | exact hgo v2 w2 _ _ hI2 | refine hP _ ?_ | fail
      · ((repeat' first | refine hP _ ?_ | fail); try dsimp only)
        refine ⟨lw_ix hb hL (k := 1) (by decide) rfl, ?_⟩
        ((repeat' first | refine hP _ ?_ | fail); try dsimp only)
        refine HP.2.2.2.2.2.2.1 _ d v w _ hI (fun r v1 w1 hR => ?_)
        ((repeat' first | refine hP _ ?_ | fail); try dsimp only)
        refine ⟨lw_ix hb hL (k := 1) (by decide) rfl, ?_⟩
        ((repeat' first | refine hP _ ?_ | fail); try dsimp only)
        refine hR _ (fun v2 w2 hI2 => ?_)
        ((repeat' first | refine hP _ ?_ | fail); try dsimp only)
        refine ⟨fun _ => ?_, fun e3 => absurd rfl e3⟩
        repeat' first | exact hgo v2 w2 _ _ hI2 | refine hP _ ?_ | fail
      · ((repeat' first | refine hP _ ?_ | fail); try dsimp only)
        refine ⟨lw_ix hb hL (k := 1) (by decide) rfl, ?_⟩
        ((repeat' first | refine hP _ ?_ | fail); try dsimp only)
        refine ⟨lw_ix hb hL (k := 2) (by decide) rfl, ?_⟩
        ((repeat' first | refine hP _ ?_ | fail); try dsimp only)
        refine HP.2.2.2.2.2.2.2.1 _ _ d v w _ hI (fun r v1 w1 hR => ?_)
        ((repeat' first | refine hP _ ?_ | fail); try dsimp only)
        refine ⟨lw_ix hb hL (k := 1) (by decide) rfl, ?_⟩
        ((repeat' first | refine hP _ ?_ | fail); try dsimp only)
        refine ⟨lw_ix hb hL (k := 2) (by decide) rfl, ?_⟩
        ((repeat' first | refine hP _ ?_ | fail); try dsimp only)
        refine hR _ (fun v2 w2 hI2 => ?_)
        ((repeat' first | refine hP _ ?_ | fail); try dsimp only)
        refine ⟨fun _ => ?_, fun e3 => absurd rfl e3⟩
        repeat' first | exact hgo v2 w2 _ _ hI2 | refine hP _ ?_ | fail
      · ((repeat' first | refine hP _ ?_ | fail); try dsimp only)
        refine ⟨lw_ix hb hL (k := 1) (by decide) rfl, ?_⟩
        ((repeat' first | refine hP _ ?_ | fail); try dsimp only)
        refine ⟨lw_ix hb hL (k := 2) (by decide) rfl, ?_⟩
        ((repeat' first | refine hP _ ?_ | fail); try dsimp only)
        refine HP.2.2.2.2.2.2.2.2.1 _ _ d v w _ hI (fun r v1 w1 hR => ?_)
        ((repeat' first | refine hP _ ?_ | fail); try dsimp only)
        refine ⟨lw_ix hb hL (k := 1) (by decide) rfl, ?_⟩
        ((repeat' first | refine hP _ ?_ | fail); try dsimp only)
        refine ⟨lw_ix hb hL (k := 2) (by decide) rfl, ?_⟩
        ((repeat' first | refine hP _ ?_ | fail); try dsimp only)
        refine hR _ (fun v2 w2 hI2 => ?_)
        ((repeat' first | refine hP _ ?_ | fail); try dsimp only)
        refine ⟨fun _ => ?_, fun e3 => absurd rfl e3⟩
        repeat' first | exact hgo v2 w2 _ _ hI2 | refine hP _ ?_ | fail
      · ((repeat' first | refine hP _ ?_ | fail); try dsimp only)
        refine ⟨lw_ix hb hL (k := 1) (by decide) rfl, ?_⟩
        ((repeat' first | refine hP _ ?_ | fail); try dsimp only)
        refine ⟨lw_ix hb hL (k := 2) (by decide) rfl, ?_⟩
        ((repeat' first | refine hP _ ?_ | fail); try dsimp only)
        refine HP.2.2.2.2.2.2.2.2.2.1 _ _ d v w _ hI (fun r v1 w1 hR => ?_)
        ((repeat' first | refine hP _ ?_ | fail); try dsimp only)
        refine ⟨lw_ix hb hL (k := 1) (by decide) rfl, ?_⟩
        ((repeat' first | refine hP _ ?_ | fail); try dsimp only)
        refine ⟨lw_ix hb hL (k := 2) (by decide) rfl, ?_⟩
        ((repeat' first | refine hP _ ?_ | fail); try dsimp only)
        refine hR _ (fun v2 w2 hI2 => ?_)
        ((repeat' first | refine hP _ ?_ | fail); try dsimp only)
        refine ⟨fun _ => ?_, fun e3 => absurd rfl e3⟩
        repeat' first | exact hgo v2 w2 _ _ hI2 | refine hP _ ?_ | fail
      · ((repeat' first | refine hP _ ?_ | fail); try dsimp only)
        refine ⟨lw_ix hb hL (k := 1) (by decide) rfl, ?_⟩
        ((repeat' first | refine hP _ ?_ | fail); try dsimp only)
        refine ⟨lw_ix hb hL (k := 2) (by decide) rfl, ?_⟩
        ((repeat' first | refine hP _ ?_ | fail); try dsimp only)
        refine HP.2.2.2.2.2.2.2.2.2.2.1 _ _ d v w _ hI (fun r v1 w1 hR => ?_)
        ((repeat' first | refine hP _ ?_ | fail); try dsimp only)
        refine ⟨lw_ix hb hL (k := 1) (by decide) rfl, ?_⟩
        ((repeat' first | refine hP _ ?_ | fail); try dsimp only)
        refine ⟨lw_ix hb hL (k := 2) (by decide) rfl, ?_⟩
        ((repeat' first | refine hP _ ?_ | fail); try dsimp only)
        refine hR _ (fun v2 w2 hI2 => ?_)
        ((repeat' first | refine hP _ ?_ | fail); try dsimp only)
        refine ⟨fun _ => ?_, fun e3 => absurd rfl e3⟩
        repeat' first | exact hgo v2 w2 _ _ hI2 | refine hP _ ?_ | fail
      · ((repeat' first | refine hP _ ?_ | fail); try dsimp only)
        refine ⟨lw_ix hb hL (k := 1) (by decide) rfl, ?_⟩
        ((repeat' first | refine hP _ ?_ | fail); try dsimp only)
        refine HP.2.2.2.2.2.2.2.2.2.2.2.1 _ d v w _ hI (fun r v1 w1 hR => ?_)
        ((repeat' first | refine hP _ ?_ | fail); try dsimp only)
        refine ⟨lw_ix hb hL (k := 1) (by decide) rfl, ?_⟩
        ((repeat' first | refine hP _ ?_ | fail); try dsimp only)
        refine hR _ (fun v2 w2 hI2 => ?_)
        ((repeat' first | refine hP _ ?_ | fail); try dsimp only)
        refine ⟨fun _ => ?_, fun e3 => absurd rfl e3⟩
        repeat' first | exact hgo v2 w2 _ _ hI2 | refine hP _ ?_ | fail
      · ((repeat' first | refine hP _ ?_ | fail); try dsimp only)
        refine ⟨lw_ix hb hL (k := 1) (by decide) rfl, ?_⟩
        ((repeat' first | refine hP _ ?_ | fail); try dsimp only)
        refine ⟨lw_ix hb hL (k := 2) (by decide) rfl, ?_⟩
        ((repeat' first | refine hP _ ?_ | fail); try dsimp only)
        refine HP.2.2.2.2.2.2.2.2.2.2.2.2.1 _ _ d v w _ hI (fun r v1 w1 hR => ?_)
        ((repeat' first | refine hP _ ?_ | fail); try dsimp only)
        refine ⟨lw_ix hb hL (k := 1) (by decide) rfl, ?_⟩
        ((repeat' first | refine hP _ ?_ | fail); try dsimp only)
        refine ⟨lw_ix hb hL (k := 2) (by decide) rfl, ?_⟩
        ((repeat' first | refine hP _ ?_ | fail); try dsimp only)
        refine hR _ (fun v2 w2 hI2 => ?_)
        ((repeat' first | refine hP _ ?_ | fail); try dsimp only)
        refine ⟨fun _ => ?_, fun e3 => absurd rfl e3⟩
        repeat' first | exact hgo v2 w2 _ _ hI2 | refine hP _ ?_ | fail
      · ((repeat' first | refine hP _ ?_ | fail); try dsimp only)
        refine ⟨lw_ix hb hL (k := 1) (by decide) rfl, ?_⟩
        ((repeat' first | refine hP _ ?_ | fail); try dsimp only)
        refine HP.2.2.2.2.2.2.2.2.2.2.2.2.2.1 _ d v w _ hI (fun r v1 w1 hR => ?_)
        ((repeat' first | refine hP _ ?_ | fail); try dsimp only)
        refine ⟨lw_ix hb hL (k := 1) (by decide) rfl, ?_⟩
        ((repeat' first | refine hP _ ?_ | fail); try dsimp only)
        refine hR _ (fun v2 w2 hI2 => ?_)
        ((repeat' first | refine hP _ ?_ | fail); try dsimp only)
        refine ⟨fun _ => ?_, fun e3 => absurd rfl e3⟩
        repeat' first | exact hgo v2 w2 _ _ hI2 | refine hP _ ?_ | fail
      · ((repeat' first | refine hP _ ?_ | fail); try dsimp only)
        refine ⟨lw_ix hb hL (k := 1) (by decide) rfl, ?_⟩
        ((repeat' first | refine hP _ ?_ | fail); try dsimp only)
        refine ⟨lw_ix hb hL (k := 2) (by decide) rfl, ?_⟩
        ((repeat' first | refine hP _ ?_ | fail); try dsimp only)
        refine HP.2.2.2.2.2.2.2.2.2.2.2.2.2.2.1 _ _ d v w _ hI (fun r v1 w1 hR => ?_)
        ((repeat' first | refine hP _ ?_ | fail); try dsimp only)
        refine ⟨lw_ix hb hL (k := 1) (by decide) rfl, ?_⟩
        ((repeat' first | refine hP _ ?_ | fail); try dsimp only)
        refine ⟨lw_ix hb hL (k := 2) (by decide) rfl, ?_⟩
        ((repeat' first | refine hP _ ?_ | fail); try dsimp only)
        refine hR _ (fun v2 w2 hI2 => ?_)
        ((repeat' first | refine hP _ ?_ | fail); try dsimp only)
        refine ⟨fun _ => ?_, fun e3 => absurd rfl e3⟩
        repeat' first | exact hgo v2 w2 _ _ hI2 | refine hP _ ?_ | fail
      · ((repeat' first | refine hP _ ?_ | fail); try dsimp only)
        refine ⟨lw_ix hb hL (k := 1) (by decide) rfl, ?_⟩
        ((repeat' first | refine hP _ ?_ | fail); try dsimp only)
        refine ⟨lw_ix hb hL (k := 2) (by decide) rfl, ?_⟩
        ((repeat' first | refine hP _ ?_ | fail); try dsimp only)
        refine HP.2.2.2.2.2.2.2.2.2.2.2.2.2.2.2.1 _ _ d v w _ hI (fun r v1 w1 hR => ?_)
        ((repeat' first | refine hP _ ?_ | fail); try dsimp only)
        refine ⟨lw_ix hb hL (k := 1) (by decide) rfl, ?_⟩
        ((repeat' first | refine hP _ ?_ | fail); try dsimp only)
        refine ⟨lw_ix hb hL (k := 2) (by decide) rfl, ?_⟩
        ((repeat' first | refine hP _ ?_ | fail); try dsimp only)
        refine hR _ (fun v2 w2 hI2 => ?_)
        ((repeat' first | refine hP _ ?_ | fail); try dsimp only)
        refine ⟨fun _ => ?_, fun e3 => absurd rfl e3⟩
        repeat' first | exact hgo v2 w2 _ _ hI2 | refine hP _ ?_ | fail
      · ((repeat' first | refine hP _ ?_ | fail); try dsimp only)
        refine ⟨lw_ix hb hL (k := 1) (by decide) rfl, ?_⟩
        ((repeat' first | refine hP _ ?_ | fail); try dsimp only)
        refine ⟨lw_ix hb hL (k := 2) (by decide) rfl, ?_⟩
        ((repeat' first | refine hP _ ?_ | fail); try dsimp only)
        refine HP.2.2.2.2.2.2.2.2.2.2.2.2.2.2.2.2.1 _ _ d v w _ hI (fun r v1 w1 hR => ?_)
        ((repeat' first | refine hP _ ?_ | fail); try dsimp only)
        refine ⟨lw_ix hb hL (k := 1) (by decide) rfl, ?_⟩
        ((repeat' first | refine hP _ ?_ | fail); try dsimp only)
        refine ⟨lw_ix hb hL (k := 2) (by decide) rfl, ?_⟩
        ((repeat' first | refine hP _ ?_ | fail); try dsimp only)
        refine hR _ (fun v2 w2 hI2 => ?_)
        ((repeat' first | refine hP _ ?_ | fail); try dsimp only)
        refine ⟨fun _ => ?_, fun e3 => absurd rfl e3⟩
        repeat' first | exact hgo v2 w2 _ _ hI2 | refine hP _ ?_ | fail
      · ((repeat' first | refine hP _ ?_ | fail); try dsimp only)
        refine ⟨lw_ix hb hL (k := 1) (by decide) rfl, ?_⟩
        ((repeat' first | refine hP _ ?_ | fail); try dsimp only)
        refine ⟨lw_ix hb hL (k := 2) (by decide) rfl, ?_⟩
        ((repeat' first | refine hP _ ?_ | fail); try dsimp only)
        refine ⟨lw_ix hb hL (k := 3) (by decide) rfl, ?_⟩
        ((repeat' first | refine hP _ ?_ | fail); try dsimp only)
        refine HP.2.2.2.2.2.2.2.2.2.2.2.2.2.2.2.2.2.1 _ _ _ d v w _ hI (fun r v1 w1 hR => ?_)
        ((repeat' first | refine hP _ ?_ | fail); try dsimp only)
        refine ⟨lw_ix hb hL (k := 1) (by decide) rfl, ?_⟩
        ((repeat' first | refine hP _ ?_ | fail); try dsimp only)
        refine ⟨lw_ix hb hL (k := 2) (by decide) rfl, ?_⟩
        ((repeat' first | refine hP _ ?_ | fail); try dsimp only)
        refine ⟨lw_ix hb hL (k := 3) (by decide) rfl, ?_⟩
        ((repeat' first | refine hP _ ?_ | fail); try dsimp only)
        refine hR _ (fun v2 w2 hI2 => ?_)
        ((repeat' first | refine hP _ ?_ | fail); try dsimp only)
        refine ⟨fun _ => ?_, fun e3 => absurd rfl e3⟩
        repeat' first | exact hgo v2 w2 _ _ hI2 | refine hP _ ?_ | fail
      · ((repeat' first | refine hP _ ?_ | fail); try dsimp only)
        refine ⟨lw_ix hb hL (k := 1) (by decide) rfl, ?_⟩
        ((repeat' first | refine hP _ ?_ | fail); try dsimp only)
        refine ⟨lw_ix hb hL (k := 2) (by decide) rfl, ?_⟩
        ((repeat' first | refine hP _ ?_ | fail); try dsimp only)
        refine HP.2.2.2.2.2.2.2.2.2.2.2.2.2.2.2.2.2.2.1 _ _ d v w _ hI (fun r v1 w1 hR => ?_)
        ((repeat' first | refine hP _ ?_ | fail); try dsimp only)
        refine ⟨lw_ix hb hL (k := 1) (by decide) rfl, ?_⟩
        ((repeat' first | refine hP _ ?_ | fail); try dsimp only)
        refine ⟨lw_ix hb hL (k := 2) (by decide) rfl, ?_⟩
        ((repeat' first | refine hP _ ?_ | fail); try dsimp only)
        refine hR _ (fun v2 w2 hI2 => ?_)
        ((repeat' first | refine hP _ ?_ | fail); try dsimp only)
        refine ⟨fun _ => ?_, fun e3 => absurd rfl e3⟩
        repeat' first | exact hgo v2 w2 _ _ hI2 | refine hP _ ?_ | fail
      · ((repeat' first | refine hP _ ?_ | fail); try dsimp only)
        refine ⟨lw_ix hb hL (k := 1) (by decide) rfl, ?_⟩
        ((repeat' first | refine hP _ ?_ | fail); try dsimp only)
        refine ⟨lw_ix hb hL (k := 2) (by decide) rfl, ?_⟩
        ((repeat' first | refine hP _ ?_ | fail); try dsimp only)
        refine ⟨lw_ix hb hL (k := 3) (by decide) rfl, ?_⟩
        ((repeat' first | refine hP _ ?_ | fail); try dsimp only)
        refine ⟨lw_ix hb hL (k := 4) (by decide) rfl, ?_⟩
        ((repeat' first | refine hP _ ?_ | fail); try dsimp only)
        refine HP.2.2.2.2.2.2.2.2.2.2.2.2.2.2.2.2.2.2.2.1 _ _ _ _ d v w _ hI (fun r v1 w1 hR => ?_)
        ((repeat' first | refine hP _ ?_ | fail); try dsimp only)
        refine ⟨lw_ix hb hL (k := 1) (by decide) rfl, ?_⟩
        ((repeat' first | refine hP _ ?_ | fail); try dsimp only)
        refine ⟨lw_ix hb hL (k := 2) (by decide) rfl, ?_⟩
        ((repeat' first | refine hP _ ?_ | fail); try dsimp only)
        refine ⟨lw_ix hb hL (k := 3) (by decide) rfl, ?_⟩
        ((repeat' first | refine hP _ ?_ | fail); try dsimp only)
        refine ⟨lw_ix hb hL (k := 4) (by decide) rfl, ?_⟩
        ((repeat' first | refine hP _ ?_ | fail); try dsimp only)
        refine hR _ (fun v2 w2 hI2 => ?_)
        ((repeat' first | refine hP _ ?_ | fail); try dsimp only)
        refine ⟨fun _ => ?_, fun e3 => absurd rfl e3⟩
        repeat' first | exact hgo v2 w2 _ _ hI2 | refine hP _ ?_ | fail
      · ((repeat' first | refine hP _ ?_ | fail); try dsimp only)
        refine ⟨lw_ix hb hL (k := 1) (by decide) rfl, ?_⟩
        ((repeat' first | refine hP _ ?_ | fail); try dsimp only)
        refine ⟨lw_ix hb hL (k := 2) (by decide) rfl, ?_⟩
        ((repeat' first | refine hP _ ?_ | fail); try dsimp only)
        refine HP.2.2.2.2.2.2.2.2.2.2.2.2.2.2.2.2.2.2.2.2.1 _ _ d v w _ hI (fun r v1 w1 hR => ?_)
        ((repeat' first | refine hP _ ?_ | fail); try dsimp only)
        refine ⟨lw_ix hb hL (k := 1) (by decide) rfl, ?_⟩
        ((repeat' first | refine hP _ ?_ | fail); try dsimp only)
        refine ⟨lw_ix hb hL (k := 2) (by decide) rfl, ?_⟩
        ((repeat' first | refine hP _ ?_ | fail); try dsimp only)
        refine hR _ (fun v2 w2 hI2 => ?_)
        ((repeat' first | refine hP _ ?_ | fail); try dsimp only)
        refine ⟨fun _ => ?_, fun e3 => absurd rfl e3⟩
        repeat' first | exact hgo v2 w2 _ _ hI2 | refine hP _ ?_ | fail
      · ((repeat' first | refine hP _ ?_ | fail); try dsimp only)
        refine ⟨lw_ix hb hL (k := 1) (by decide) rfl, ?_⟩
        ((repeat' first | refine hP _ ?_ | fail); try dsimp only)
        refine ⟨lw_ix hb hL (k := 2) (by decide) rfl, ?_⟩
        ((repeat' first | refine hP _ ?_ | fail); try dsimp only)
        refine ⟨lw_ix hb hL (k := 3) (by decide) rfl, ?_⟩
        ((repeat' first | refine hP _ ?_ | fail); try dsimp only)
        refine ⟨lw_ix hb hL (k := 4) (by decide) rfl, ?_⟩
        ((repeat' first | refine hP _ ?_ | fail); try dsimp only)
        refine HP.2.2.2.2.2.2.2.2.2.2.2.2.2.2.2.2.2.2.2.2.2.1 _ _ _ _ d v w _ hI (fun r v1 w1 hR => ?_)
        ((repeat' first | refine hP _ ?_ | fail); try dsimp only)
        refine ⟨lw_ix hb hL (k := 1) (by decide) rfl, ?_⟩
        ((repeat' first | refine hP _ ?_ | fail); try dsimp only)
        refine ⟨lw_ix hb hL (k := 2) (by decide) rfl, ?_⟩
        ((repeat' first | refine hP _ ?_ | fail); try dsimp only)
        refine ⟨lw_ix hb hL (k := 3) (by decide) rfl, ?_⟩
        ((repeat' first | refine hP _ ?_ | fail); try dsimp only)
        refine ⟨lw_ix hb hL (k := 4) (by decide) rfl, ?_⟩
        ((repeat' first | refine hP _ ?_ | fail); try dsimp only)
        refine hR _ (fun v2 w2 hI2 => ?_)
        ((repeat' first | refine hP _ ?_ | fail); try dsimp only)
        refine ⟨fun _ => ?_, fun e3 => absurd rfl e3⟩
        repeat' first | exact hgo v2 w2 _ _ hI2 | refine hP _ ?_ | fail
      · ((repeat' first | refine hP _ ?_ | fail); try dsimp only)
        refine ⟨lw_ix hb hL (k := 1) (by decide) rfl, ?_⟩
        ((repeat' first | refine hP _ ?_ | fail); try dsimp only)
        refine ⟨lw_ix hb hL (k := 2) (by decide) rfl, ?_⟩
        ((repeat' first | refine hP _ ?_ | fail); try dsimp only)
        refine HP.2.2.2.2.2.2.2.2.2.2.2.2.2.2.2.2.2.2.2.2.2.2.1 _ _ d v w _ hI (fun r v1 w1 hR => ?_)
        ((repeat' first | refine hP _ ?_ | fail); try dsimp only)
        refine ⟨lw_ix hb hL (k := 1) (by decide) rfl, ?_⟩
        ((repeat' first | refine hP _ ?_ | fail); try dsimp only)
        refine ⟨lw_ix hb hL (k := 2) (by decide) rfl, ?_⟩
        ((repeat' first | refine hP _ ?_ | fail); try dsimp only)
        refine hR _ (fun v2 w2 hI2 => ?_)
        ((repeat' first | refine hP _ ?_ | fail); try dsimp only)
        refine ⟨fun _ => ?_, fun e3 => absurd rfl e3⟩
        repeat' first | exact hgo v2 w2 _ _ hI2 | refine hP _ ?_ | fail
      · ((repeat' first | refine hP _ ?_ | fail); try dsimp only)
        refine ⟨lw_ix hb hL (k := 1) (by decide) rfl, ?_⟩
        ((repeat' first | refine hP _ ?_ | fail); try dsimp only)
        refine ⟨lw_ix hb hL (k := 2) (by decide) rfl, ?_⟩
        ((repeat' first | refine hP _ ?_ | fail); try dsimp only)
        refine ⟨lw_ix hb hL (k := 3) (by decide) rfl, ?_⟩
        ((repeat' first | refine hP _ ?_ | fail); try dsimp only)
        refine HP.2.2.2.2.2.2.2.2.2.2.2.2.2.2.2.2.2.2.2.2.2.2.2.1 _ _ _ d v w _ hI (fun r v1 w1 hR => ?_)
        ((repeat' first | refine hP _ ?_ | fail); try dsimp only)
        refine ⟨lw_ix hb hL (k := 1) (by decide) rfl, ?_⟩
        ((repeat' first | refine hP _ ?_ | fail); try dsimp only)
        refine ⟨lw_ix hb hL (k := 2) (by decide) rfl, ?_⟩
        ((repeat' first | refine hP _ ?_ | fail); try dsimp only)
        refine ⟨lw_ix hb hL (k := 3) (by decide) rfl, ?_⟩
        ((repeat' first | refine hP _ ?_ | fail); try dsimp only)
        refine hR _ (fun v2 w2 hI2 => ?_)
        ((repeat' first | refine hP _ ?_ | fail); try dsimp only)
        refine ⟨fun _ => ?_, fun e3 => absurd (lw_cmp r) e3⟩
        repeat' first | exact hgo v2 w2 _ _ hI2 | refine hP _ ?_ | fail
      · ((repeat' first | refine hP _ ?_ | fail); try dsimp only)
        refine ⟨lw_ix hb hL (k := 1) (by decide) rfl, ?_⟩
        ((repeat' first | refine hP _ ?_ | fail); try dsimp only)
        refine ⟨lw_ix hb hL (k := 2) (by decide) rfl, ?_⟩
        ((repeat' first | refine hP _ ?_ | fail); try dsimp only)
        refine HP.2.2.2.2.2.2.2.2.2.2.2.2.2.2.2.2.2.2.2.2.2.2.2.2.1 _ _ d v w _ hI (fun r v1 w1 hR => ?_)
        ((repeat' first | refine hP _ ?_ | fail); try dsimp only)
        refine ⟨lw_ix hb hL (k := 1) (by decide) rfl, ?_⟩
        ((repeat' first | refine hP _ ?_ | fail); try dsimp only)
        refine ⟨lw_ix hb hL (k := 2) (by decide) rfl, ?_⟩
        ((repeat' first | refine hP _ ?_ | fail); try dsimp only)
        refine hR _ (fun v2 w2 hI2 => ?_)
        ((repeat' first | refine hP _ ?_ | fail); try dsimp only)
        refine ⟨fun _ => ?_, fun e3 => absurd rfl e3⟩
        repeat' first | exact hgo v2 w2 _ _ hI2 | refine hP _ ?_ | fail
      · ((repeat' first | refine hP _ ?_ | fail); try dsimp only)
        refine ⟨lw_ix hb hL (k := 1) (by decide) rfl, ?_⟩
        ((repeat' first | refine hP _ ?_ | fail); try dsimp only)
        refine HP.2.2.2.2.2.2.2.2.2.2.2.2.2.2.2.2.2.2.2.2.2.2.2.2.2.1 _ d v w _ hI (fun r v1 w1 hR => ?_)
        ((repeat' first | refine hP _ ?_ | fail); try dsimp only)
        refine ⟨lw_ix hb hL (k := 1) (by decide) rfl, ?_⟩
        ((repeat' first | refine hP _ ?_ | fail); try dsimp only)
        refine hR _ (fun v2 w2 hI2 => ?_)
        ((repeat' first | refine hP _ ?_ | fail); try dsimp only)
        refine ⟨fun _ => ?_, fun e3 => absurd rfl e3⟩
        repeat' first | exact hgo v2 w2 _ _ hI2 | refine hP _ ?_ | fail
      · ((repeat' first | refine hP _ ?_ | fail); try dsimp only)
        refine HP.2.2.2.2.2.2.2.2.2.2.2.2.2.2.2.2.2.2.2.2.2.2.2.2.2.2.1  d v w _ hI (fun r v1 w1 hR => ?_)
        ((repeat' first | refine hP _ ?_ | fail); try dsimp only)
        refine hR _ (fun v2 w2 hI2 => ?_)
        ((repeat' first | refine hP _ ?_ | fail); try dsimp only)
        refine ⟨fun _ => ?_, fun e3 => absurd rfl e3⟩
        repeat' first | exact hgo v2 w2 _ _ hI2 | refine hP _ ?_ | fail
      · ((repeat' first | refine hP _ ?_ | fail); try dsimp only)
        refine HP.2.2.2.2.2.2.2.2.2.2.2.2.2.2.2.2.2.2.2.2.2.2.2.2.2.2.2.1  d v w _ hI (fun r v1 w1 hR => ?_)
        ((repeat' first | refine hP _ ?_ | fail); try dsimp only)
        refine hR _ (fun v2 w2 hI2 => ?_)
        ((repeat' first | refine hP _ ?_ | fail); try dsimp only)
        refine ⟨fun _ => ?_, fun e3 => absurd rfl e3⟩
        repeat' first | exact hgo v2 w2 _ _ hI2 | refine hP _ ?_ | fail
      · ((repeat' first | refine hP _ ?_ | fail); try dsimp only)
        refine HP.2.2.2.2.2.2.2.2.2.2.2.2.2.2.2.2.2.2.2.2.2.2.2.2.2.2.2.2.1  d v w _ hI (fun r v1 w1 hR => ?_)
        ((repeat' first | refine hP _ ?_ | fail); try dsimp only)
        refine hR _ (fun v2 w2 hI2 => ?_)
        ((repeat' first | refine hP _ ?_ | fail); try dsimp only)
        refine ⟨fun _ => ?_, fun e3 => absurd rfl e3⟩
        repeat' first | exact hgo v2 w2 _ _ hI2 | refine hP _ ?_ | fail
      · ((repeat' first | refine hP _ ?_ | fail); try dsimp only)
        refine ⟨lw_ix hb hL (k := 1) (by decide) rfl, ?_⟩
        ((repeat' first | refine hP _ ?_ | fail); try dsimp only)
        refine HP.2.2.2.2.2.2.2.2.2.2.2.2.2.2.2.2.2.2.2.2.2.2.2.2.2.2.2.2.2 _ d v w _ hI (fun r v1 w1 hR => ?_)
        ((repeat' first | refine hP _ ?_ | fail); try dsimp only)
        refine ⟨lw_ix hb hL (k := 1) (by decide) rfl, ?_⟩
        ((repeat' first | refine hP _ ?_ | fail); try dsimp only)
        refine hR _ (fun v2 w2 hI2 => ?_)
        ((repeat' first | refine hP _ ?_ | fail); try dsimp only)
        refine ⟨fun _ => ?_, fun e3 => absurd rfl e3⟩
        repeat' first | exact hgo v2 w2 _ _ hI2 | refine hP _ ?_ | fail
      · repeat' first | exact hgo v w _ _ hI | refine hP _ ?_ | fail
theorem lw_all {L : Nat} {xs : Nat → Int32} : lw_pairs L xs := ⟨fun a b c h => pr_king a b c h, fun a b => pr_tolerance a b, fun a b c d e => pr_feed a b c d e, fun a => pr_law a, fun a => pr_orders a, fun a => pr_treaty a, fun a => pr_breaths a, fun a b => pr_tried a b, fun a b => pr_kingIs a b, fun a b => pr_meet a b, fun a b => pr_leaves a b, fun a => pr_worst a, fun a b => pr_nearer a b, fun a => pr_moments a, fun a b => pr_act a b, fun a b => pr_lane a b, fun a b => pr_signing a b, fun a b c => pr_titles a b c, fun a b => pr_gifts a b, fun a b c d => pr_cushions a b c d, fun a b => pr_table a b, fun a b c d => pr_drums a b c d, fun a b => pr_tent a b, fun a b c => pr_stairs a b c, fun a b => pr_heralds a b, fun a => pr_seed a, pr_keep, pr_undo, pr_check, fun a => pr_count a⟩
