/-! ===== lane: the class, the search ===== -/
theorem bt_test {x : Int32} : ∀ {b : Nat}, b < 32 → ((x >>> (nI b &&& 31)) &&& 1 = 0 ↔ x.toBitVec.getLsbD b = false) := by
  intro b hb
  have hk : ((nI b &&& 31).toBitVec.smod 32).toNat = b := shr_k b hb
  have e : ((x >>> (nI b &&& 31)) &&& 1).toBitVec.getLsbD 0 = x.toBitVec.getLsbD b := by
    rw [Int32.toBitVec_and, Int32.toBitVec_shiftRight, BitVec.sshiftRight', hk, BitVec.getLsbD_and, BitVec.getLsbD_sshiftRight]
    simp [hb]
  have e2 : ∀ i, 0 < i → ((x >>> (nI b &&& 31)) &&& 1).toBitVec.getLsbD i = false := by
    intro i hi
    rw [Int32.toBitVec_and, BitVec.getLsbD_and, show (1 : Int32).toBitVec.getLsbD i = false by
      show (1#32).getLsbD i = false
      simp
      omega]
    simp
  constructor
  · intro h
    rw [← e, h]
    rfl
  · intro h
    apply Int32.toBitVec_inj.mp
    apply BitVec.eq_of_getLsbD_eq
    intro i hi
    rcases Nat.eq_zero_or_pos i with q | q
    · subst q
      rw [e, h]
      rfl
    · rw [e2 i q]
      show false = (0#32).getLsbD i
      simp
theorem bt_shl : ∀ b, b < 32 → ∀ c, c < 32 → (1 <<< (nI b &&& 31) : Int32).toBitVec.getLsbD c = Nat.beq b c := by decide +kernel
theorem bt_or {x : Int32} {b c : Nat} (hb : b < 32) (hc : c < 32) : (x ||| (1 <<< (nI b &&& 31))).toBitVec.getLsbD c = (x.toBitVec.getLsbD c || Nat.beq b c) := by
  rw [Int32.toBitVec_or, BitVec.getLsbD_or, bt_shl b hb c hc]
theorem bfHas_app {q : List (Nat × Nat × Nat)} {x : Nat × Nat × Nat} {s : Nat} : bfHas (q ++ [x]) s = (bfHas q s || Nat.beq x.1 s) := by
  unfold bfHas
  rw [List.any_append]
  simp
def RC (n : Nat) (q : List (Nat × Nat × Nat)) (v : am_V) : Prop := v 39 4 = nI q.length ∧ (∀ (i : Nat) (x : Nat × Nat × Nat), q[i]? = some x → v 40 i = nI (x.1 * 16 + x.2.2)) ∧ ∀ s, s < 3 ^ n → (v 41 (s / 32)).toBitVec.getLsbD (s % 32) = bfHas q s
theorem lnMove {s m x a b : Nat} (h : m + x * b = s + x * a) : nI s + (nI a - nI b) * nI x = nI m := by
  have e : nI m + nI x * nI b = nI s + nI x * nI a := by rw [pk_mul, pk_mul, nI_add, nI_add, h]
  have e2 : nI m = nI s + nI x * nI a - nI x * nI b := by rw [← e, Int32.add_sub_cancel]
  rw [e2, Int32.sub_mul, Int32.mul_comm (nI a), Int32.mul_comm (nI b), Int32.sub_eq_add_neg, Int32.sub_eq_add_neg, Int32.add_assoc]
theorem lnMove2 {s m x a b : Nat} (h : m + x * b = s + x * a) : nI s + nI x * (nI a - nI b) = nI m := by
  rw [Int32.mul_comm]
  exact lnMove h
theorem p3_le {n : Nat} (hn : n ≤ 9) : 3 ^ n ≤ 19683 := Nat.pow_le_pow_right (n := 3) (by decide) hn
section M56
variable {L : Nat} {xs : Nat → Int32} {I : am_I} {d : Nat} {v : am_V} {w : am_X} {Q : Option Value → am_H → Prop}
set_option maxRecDepth 100000 in
set_option maxHeartbeats 4000000 in
theorem m_fill41 (h : ∀ v' : am_V, (∀ i, i < 616 → v' 41 i = 0) → (∀ k, k ≠ 41 → v' k = v k) → Q none (am_sh, v', w)) : am_run (am_kc L xs) I am_m (d + 1) 237 [.ref 41, .int 0] (am_sh, v, w) 0 0 Q := by
  refine en_J7_fill_53178 rfl ?_
  intro P hP
  have key : ∀ (k i : Nat) (u : am_V), i + k = 616 → (∀ j, j < i → u 41 j = 0) → (∀ k, k ≠ 41 → u k = v k) → P (cd_J7_fill_53178.drop 5, [some (.ref 41), some (.int 0), some (.int (nI i)), some (.int (nI 616))], [], (am_sh, u, w), 0, 0) := by
    intro k
    induction k with
    | zero =>
      intro i u hi hu hf
      ((repeat' first | refine hP _ ?_ | fail); try dsimp only)
      refine ⟨fun _ => ?_, fun z => absurd (nI_le (show 616 ≤ i by omega) (by omega)) z⟩
      ((repeat' first | refine hP _ ?_ | fail); try dsimp only)
      exact h u (fun j hj => hu j (by omega)) hf
    | succ k ih =>
      intro i u hi hu hf
      have e := ih (i + 1) (am_up u 41 i 0) (by omega) (fun j hj => by
        rw [am_up_eq]
        by_cases q : j = i
        · rw [if_pos ⟨rfl, q⟩]
        · rw [if_neg (fun z => q z.2)]
          exact hu j (by omega)) (fun k hk => by rw [am_up_ne _ _ _ hk]; exact hf k hk)
      rw [← nI_1] at e
      ((repeat' first | refine hP _ ?_ | fail); try dsimp only)
      refine ⟨fun z => absurd z (nI_ge (by omega) (by omega)), fun _ => ?_⟩
      ((repeat' first | refine hP _ ?_ | fail); try dsimp only)
      refine ⟨vp_in_nI (by omega) (by omega), ?_⟩
      dsimp only
      rw [nI_clamp (by omega)]
      ((iterate 2 refine hP _ ?_); try dsimp only)
      exact e
  ((iterate 5 refine hP _ ?_); try dsimp only)
  exact key 616 0 v rfl (fun j hj => absurd hj (by omega)) (fun _ _ => rfl)
set_option maxRecDepth 100000 in
set_option maxHeartbeats 4000000 in
theorem m_addC {n s lv fi : Nat} {q : List (Nat × Nat × Nat)} (hn : n ≤ 9) (hs : s < 3 ^ n) (hfi : fi ≤ 15) (hq : RC n q v) (hlen : q.length ≤ 1680) (hroom : bfHas q s = false → q.length < 1680) (h : ∀ v' : am_V, RC n (bfAdd q (s, lv, fi)) v' → (∀ k, k ≠ 39 → k ≠ 40 → k ≠ 41 → v' k = v k) → (∀ j, j ≠ 4 → v' 39 j = v 39 j) → Q none (am_sh, v', w)) : am_run (am_kc L xs) I am_m (d + 1) 28 [.ref 39, .int (nI s), .int (nI fi)] (am_sh, v, w) 0 0 Q := by
  refine en_X2_add rfl ?_
  intro P hP
  have h3 := p3_le hn
  obtain ⟨r1, r2, r3⟩ := hq
  have hbit := r3 s hs
  have hw : s / 32 < 616 := by omega
  have hm : s % 32 < 32 := Nat.mod_lt _ (by decide)
  have erem : am_rem (nI s) 32 = nI (s % 32) := pk_rem (d := 32) (by omega) (by decide) (by decide)
  ((repeat' first | refine hP _ ?_ | fail); try dsimp only)
  refine ⟨by decide, ?_⟩
  rw [show nI s / 32 = nI (s / 32) from pk_div (d := 32) (by omega) (by decide) (by decide)]
  ((repeat' first | refine hP _ ?_ | fail); try dsimp only)
  refine ⟨fun z => absurd z (nI_pos (by omega)), fun _ => ?_⟩
  ((repeat' first | refine hP _ ?_ | fail); try dsimp only)
  refine ⟨fun z => absurd ((nI_leI (a := 616) (by omega) (by omega)).mp z) (by omega), fun _ => ?_⟩
  ((repeat' first | refine hP _ ?_ | fail); try dsimp only)
  rw [r1]
  have stay : bfHas q s = true → Q none (am_sh, v, w) := fun hh => by
    refine h v ?_ (fun _ _ _ _ => rfl) (fun _ _ => rfl)
    unfold bfAdd
    rw [if_pos hh]
    exact ⟨r1, r2, r3⟩
  have known : bfHas q s = true → P (cd_X2_add.drop 18, [some (.ref 39), some (.int (nI s)), some (.int (nI fi)), some (.int (nI (s / 32)))], [], (am_sh, v, w), 0, 0) := fun hh => by
    ((repeat' first | refine hP _ ?_ | fail); try dsimp only)
    refine ⟨vp_in_nI (by omega) (by omega), ?_⟩
    ((repeat' first | refine hP _ ?_ | fail); try dsimp only)
    rw [nI_clamp (by omega)]
    refine ⟨by decide, ?_⟩
    rw [erem]
    ((repeat' first | refine hP _ ?_ | fail); try dsimp only)
    refine ⟨fun _ => ?_, fun z => ?_⟩
    · ((repeat' first | refine hP _ ?_ | fail); try dsimp only)
      exact stay hh
    · have := (bt_test hm).mp z
      rw [hbit, hh] at this
      cases this
  refine ⟨fun z => ?_, fun z => ?_⟩
  · have hlt : q.length < 1680 := (nI_ltI (b := 1680) (by omega) (by omega)).mp z
    cases hh : bfHas q s with
    | true => exact known hh
    | false =>
      rw [hh] at hbit
      ((repeat' first | refine hP _ ?_ | fail); try dsimp only)
      refine ⟨vp_in_nI (by omega) (by omega), ?_⟩
      ((repeat' first | refine hP _ ?_ | fail); try dsimp only)
      rw [nI_clamp (by omega)]
      refine ⟨by decide, ?_⟩
      rw [erem]
      ((repeat' first | refine hP _ ?_ | fail); try dsimp only)
      refine ⟨fun z => absurd ((bt_test hm).mpr hbit) z, fun _ => ?_⟩
      ((repeat' first | refine hP _ ?_ | fail); try dsimp only)
      refine ⟨vp_in_nI (by omega) (by omega), ?_⟩
      ((repeat' first | refine hP _ ?_ | fail); try dsimp only)
      rw [nI_clamp (by omega)]
      refine ⟨by decide, ?_⟩
      rw [erem]
      ((repeat' first | refine hP _ ?_ | fail); try dsimp only)
      refine ⟨vp_in_nI (by omega) (by omega), ?_⟩
      ((repeat' first | refine hP _ ?_ | fail); try dsimp only)
      rw [nI_clamp (by omega)]
      rw [show am_up v 41 (s / 32) (v 41 (s / 32) ||| 1 <<< (nI (s % 32) &&& 31)) 39 4 = nI q.length by rw [am_up_ne _ _ _ (by decide)]; exact r1]
      refine ⟨vp_in_nI (by omega) (by omega), ?_⟩
      dsimp only
      rw [nI_clamp (by omega)]
      have efi : nI s * 16 + nI fi = nI (s * 16 + fi) := by
        rw [show nI s * 16 = nI (s * 16) from pk_mul s 16, nI_add]
      rw [efi]
      ((repeat' first | refine hP _ ?_ | fail); try dsimp only)
      refine h _ ?_ (fun k a b c => ?_) (fun j hj => ?_)
      · unfold bfAdd
        rw [if_neg (show ¬ bfHas q (s, lv, fi).1 = true by rw [show (s, lv, fi).1 = s from rfl, hh]; decide)]
        refine ⟨?_, ?_, ?_⟩
        · rw [am_up_eq, if_pos ⟨rfl, rfl⟩, am_up_ne _ _ _ (by decide), am_up_ne _ _ _ (by decide), r1, nI_1, List.length_append]
          rfl
        · intro i x hx
          rw [am_up_ne _ _ _ (by decide), am_up_eq]
          by_cases q1 : i = q.length
          · rw [if_pos ⟨rfl, q1⟩]
            rw [q1, List.getElem?_append_right (Nat.le_refl _), Nat.sub_self] at hx
            cases hx
            rfl
          · rw [if_neg (fun z => q1 z.2), am_up_ne _ _ _ (by decide)]
            refine r2 i x ?_
            rcases Nat.lt_or_ge i q.length with y | y
            · rw [List.getElem?_append_left y] at hx
              exact hx
            · rw [List.getElem?_eq_none (by rw [List.length_append]; simp; omega)] at hx
              cases hx
        · intro s' hs'
          rw [am_up_ne _ _ _ (by decide), am_up_ne _ _ _ (by decide), am_up_eq, bfHas_app]
          by_cases q1 : s' / 32 = s / 32
          · rw [if_pos ⟨rfl, q1⟩, bt_or hm (Nat.mod_lt _ (by decide)), ← q1, r3 s' hs']
            by_cases q2 : s = s'
            · rw [show Nat.beq (s, lv, fi).1 s' = true by rw [q2]; exact am_beq s', q2, am_beq]
            · rw [am_bne (show ¬ (s, lv, fi).1 = s' from q2), am_bne (show ¬ s % 32 = s' % 32 by omega)]
          · rw [if_neg (fun z => q1 z.2), r3 s' hs', am_bne (show ¬ (s, lv, fi).1 = s' from fun z => q1 (by rw [← z]))]
            simp
      · rw [am_up_ne _ _ _ a, am_up_ne _ _ _ b, am_up_ne _ _ _ c]
      · rw [am_up_eq, if_neg (fun z => hj z.2), am_up_ne _ _ _ (by decide), am_up_ne _ _ _ (by decide)]
  · have hge : ¬ q.length < 1680 := fun y => z (nI_lt y (by omega))
    have hh : bfHas q s = true := by
      cases hh : bfHas q s with
      | true => rfl
      | false => exact absurd (hroom hh) hge
    ((repeat' first | refine hP _ ?_ | fail); try dsimp only)
    exact stay hh
set_option maxRecDepth 100000 in
set_option maxHeartbeats 4000000 in
theorem m_addMoves {n s0 s lv fi i0 : Nat} {q : List (Nat × Nat × Nat)} (hn : n ≤ 9) (hq : RC n q v) (hb : BI n s0 q) (hi0 : q[i0]? = some (s, lv, fi)) (ho : bfOI q lv (bfC fi 0)) (hpl : v 39 3 = nI n) (hr : ∀ i, i < n → v 42 i = nI (lnD s i)) (h : ∀ (v' : am_V), RC n (bfEx n s lv fi n 0 q) v' → BI n s0 (bfEx n s lv fi n 0 q) → bfOI (bfEx n s lv fi n 0 q) lv (bfC fi n) → (∀ (i : Nat) (x : Nat × Nat × Nat), q[i]? = some x → (bfEx n s lv fi n 0 q)[i]? = some x) → q.length ≤ (bfEx n s lv fi n 0 q).length → (∀ k, k ≠ 39 → k ≠ 40 → k ≠ 41 → v' k = v k) → (∀ j, j ≠ 4 → v' 39 j = v 39 j) → Q none (am_sh, v', w)) : am_run (am_kc L xs) I am_m (d + 3) 27 [.ref 39, .int (nI s), .int (nI fi)] (am_sh, v, w) 0 0 Q := by
  refine en_X2_addMoves rfl ?_
  intro P hP
  have h3 := p3_le hn
  have key : ∀ (k j : Nat) (u : am_V) (q' : List (Nat × Nat × Nat)) (l4 : Option Value), j + k = n → RC n q' u → BI n s0 q' → bfOI q' lv (bfC fi j) → (∀ (i : Nat) (x : Nat × Nat × Nat), q[i]? = some x → q'[i]? = some x) → q.length ≤ q'.length → (∀ k, k ≠ 39 → k ≠ 40 → k ≠ 41 → u k = v k) → (∀ j, j ≠ 4 → u 39 j = v 39 j) → bfEx n s lv fi k j q' = bfEx n s lv fi n 0 q → P (cd_X2_addMoves.drop 2, [some (.ref 39), some (.int (nI s)), some (.int (nI fi)), some (.int (nI j)), l4], [], (am_sh, u, w), 0, 0) := by
    intro k
    induction k with
    | zero =>
      intro j u q' l4 hj hq' hb' ho' hpre hlen hf hf2 hres
      have hjn : j = n := by omega
      subst hjn
      ((repeat' first | refine hP _ ?_ | fail); try dsimp only)
      rw [show u 39 3 = nI j by rw [hf2 3 (by decide)]; exact hpl]
      refine ⟨fun _ => ?_, fun z => absurd (Int32.le_refl _) z⟩
      ((repeat' first | refine hP _ ?_ | fail); try dsimp only)
      have hres' : q' = bfEx j s lv fi j 0 q := hres
      rw [← hres'] at h
      exact h u hq' hb' ho' hpre hlen hf hf2
    | succ k ih =>
      intro j u q' l4 hj hq' hb' ho' hpre hlen hf hf2 hres
      have hmem : (s, lv, fi) ∈ q' := List.mem_of_getElem? (hpre i0 _ hi0)
      obtain ⟨st1, st2, st3, st4⟩ := hb'.step hn hmem (show j < n by omega) ho'
      have hsn := (hb'.cn _ hmem).1
      have hsn' : s < 3 ^ n := hsn
      have hpl' : u 39 3 = nI n := by rw [hf2 3 (by decide)]; exact hpl
      have hfi15 : fi ≤ 15 := by
        rcases hb'.fi hmem with y | y <;> omega
      have nx : ∀ (u2 : am_V) (l4 : Option Value), RC n (bfSt n s lv fi j q') u2 → (∀ k, k ≠ 39 → k ≠ 40 → k ≠ 41 → u2 k = v k) → (∀ j, j ≠ 4 → u2 39 j = v 39 j) → P (cd_X2_addMoves.drop 38, [some (.ref 39), some (.int (nI s)), some (.int (nI fi)), some (.int (nI j)), l4], [], (am_sh, u2, w), 0, 0) := by
        intro u2 l4 hr2 hfa hfb
        have e := ih (j + 1) u2 (bfSt n s lv fi j q') l4 (by omega) hr2 st1 st2 (fun i x hx => st3 i x (hpre i x hx)) (by omega) hfa hfb hres
        rw [← nI_1] at e
        ((iterate 2 refine hP _ ?_); try dsimp only)
        exact e
      ((repeat' first | refine hP _ ?_ | fail); try dsimp only)
      rw [hpl']
      refine ⟨fun z => absurd z (nI_ge (by omega) (by omega)), fun _ => ?_⟩
      ((repeat' first | refine hP _ ?_ | fail); try dsimp only)
      refine m_landing hn (lnD_lt s) hpl' (fun i hi => by rw [hf 42 (by decide) (by decide) (by decide)]; exact hr i hi) (by omega) (fun hnone => ?_) (fun to hto => ?_)
      · ((repeat' first | refine hP _ ?_ | fail); try dsimp only)
        refine ⟨fun _ => ?_, fun z => absurd (by decide) z⟩
        exact nx u _ (by unfold bfSt; rw [hnone]; exact hq') hf hf2
      · obtain ⟨m1, m2, m3, m4⟩ := lnM_ok hsn' (show j < n by omega) hto
        obtain ⟨t1, t2, t3, t4⟩ := lnL_ok (show j < n by omega) hto
        have hlen' := hb'.len hn
        have hst : bfSt n s lv fi j q' = bfAdd q' (lnM s j to, lv + 1, bfC fi j) := by unfold bfSt; rw [hto]
        have hroom : bfHas q' (lnM s j to) = false → q'.length < 1680 := by
          intro hh
          have := st1.len hn
          rw [hst] at this
          unfold bfAdd at this
          rw [if_neg (by rw [show (lnM s j to, lv + 1, bfC fi j).1 = lnM s j to from rfl, hh]; decide), List.length_append] at this
          rw [List.length_singleton] at this
          omega
        have go : ∀ c : Nat, c = bfC fi j → P (cd_X2_addMoves.drop 37, [some (.ref 39), some (.int (nI s)), some (.int (nI fi)), some (.int (nI j)), some (.int (nI to))], [.int (nI c), .int (nI (lnM s j to)), .ref 39], (am_sh, u, w), 0, 0) := by
          intro c hc
          subst hc
          ((repeat' first | refine hP _ ?_ | fail); try dsimp only)
          refine m_addC (lv := lv + 1) hn m3 (by unfold bfC; split <;> omega) hq' hlen' hroom (fun u2 hr2 hfa hfb => ?_)
          exact nx u2 _ (by rw [hst]; exact hr2) (fun k a b c => by rw [hfa k a b c]; exact hf k a b c) (fun j hj => by rw [hfb j hj]; exact hf2 j hj)
        have mid : P (cd_X2_addMoves.drop 31, [some (.ref 39), some (.int (nI s)), some (.int (nI fi)), some (.int (nI j)), some (.int (nI to))], [.int (nI (lnM s j to)), .ref 39], (am_sh, u, w), 0, 0) := by
          ((repeat' first | refine hP _ ?_ | fail); try dsimp only)
          by_cases q1 : fi = 15
          · refine ⟨fun z => absurd (by rw [q1]; rfl) z, fun _ => ?_⟩
            have e := go j (by unfold bfC; rw [if_pos q1])
            ((iterate 2 refine hP _ ?_); try dsimp only)
            exact e
          · refine ⟨fun _ => ?_, fun z => absurd ((nI_eq (b := 15) (by omega) (by omega)).mp z) q1⟩
            have e := go fi (by unfold bfC; rw [if_neg q1])
            ((iterate 1 refine hP _ ?_); try dsimp only)
            exact e
        have wts : P (cd_X2_addMoves.drop 24, [some (.ref 39), some (.int (nI s)), some (.int (nI fi)), some (.int (nI j)), some (.int (nI to))], [.int (nI (3 ^ j)), .int (nI (3 ^ to)), .int (nI s), .ref 39], (am_sh, u, w), 0, 0) := by
          ((repeat' first | refine hP _ ?_ | fail); try dsimp only)
          refine ⟨vp_in_nI (by omega) (by omega), ?_⟩
          dsimp only
          rw [nI_clamp (by omega), show u 42 j = nI (lnD s j) by rw [hf 42 (by decide) (by decide) (by decide)]; exact hr j (by omega)]
          rw [← lnMove m2] at mid
          ((iterate 2 refine hP _ ?_); try dsimp only)
          exact mid
        have wt1 : P (cd_X2_addMoves.drop 21, [some (.ref 39), some (.int (nI s)), some (.int (nI fi)), some (.int (nI j)), some (.int (nI to))], [.int (nI (3 ^ to)), .int (nI s), .ref 39], (am_sh, u, w), 0, 0) := by
          ((repeat' first | refine hP _ ?_ | fail); try dsimp only)
          refine ⟨vp_in_nI (by omega) (by omega), ?_⟩
          rw [nI_clamp (by omega)]
          rw [← lnW j (by omega)] at wts
          exact wts
        ((repeat' first | refine hP _ ?_ | fail); try dsimp only)
        refine ⟨fun z => absurd z (nI_pos (by omega)), fun _ => ?_⟩
        ((repeat' first | refine hP _ ?_ | fail); try dsimp only)
        rw [hpl']
        refine ⟨fun z => absurd z (nI_ge (by omega) (by omega)), fun _ => ?_⟩
        ((repeat' first | refine hP _ ?_ | fail); try dsimp only)
        refine ⟨vp_in_nI (by omega) (by omega), ?_⟩
        rw [nI_clamp (by omega)]
        rw [← lnW to (by omega)] at wt1
        exact wt1
  ((iterate 2 refine hP _ ?_); try dsimp only)
  exact key n 0 v q none (by omega) hq hb ho (fun _ _ e => e) (Nat.le_refl _) (fun _ _ _ _ => rfl) (fun _ _ => rfl) rfl
theorem bfSt_pre {n s lv fi j : Nat} {q : List (Nat × Nat × Nat)} {i : Nat} {x : Nat × Nat × Nat} (h : q[i]? = some x) : (bfSt n s lv fi j q)[i]? = some x := by
  unfold bfSt
  split
  · exact h
  · unfold bfAdd
    split
    · exact h
    · rw [List.getElem?_append_left (List.getElem?_eq_some_iff.mp h).1]
      exact h
theorem bfSt_new {n s lv fi j : Nat} {q : List (Nat × Nat × Nat)} {i : Nat} {x : Nat × Nat × Nat} (h : (bfSt n s lv fi j q)[i]? = some x) (hi : q.length ≤ i) : x.2.1 = lv + 1 := by
  unfold bfSt at h
  split at h
  · rw [List.getElem?_eq_none hi] at h
    cases h
  · unfold bfAdd at h
    split at h
    · rw [List.getElem?_eq_none hi] at h
      cases h
    · rw [List.getElem?_append_right hi] at h
      have := List.mem_of_getElem? h
      rw [List.mem_singleton.mp this]
theorem bfEx_pre {n s lv fi : Nat} : ∀ (k j : Nat) (q : List (Nat × Nat × Nat)) (i : Nat) (x : Nat × Nat × Nat), q[i]? = some x → (bfEx n s lv fi k j q)[i]? = some x
  | 0, _, _, _, _, h => h
  | k + 1, j, q, i, x, h => bfEx_pre k (j + 1) _ i x (bfSt_pre h)
theorem bfEx_new {n s lv fi : Nat} : ∀ (k j : Nat) (q : List (Nat × Nat × Nat)) (i : Nat) (x : Nat × Nat × Nat), (bfEx n s lv fi k j q)[i]? = some x → q.length ≤ i → x.2.1 = lv + 1
  | 0, _, q, i, x, h, hi => by
    have h' : q[i]? = some x := h
    rw [List.getElem?_eq_none hi] at h'
    cases h'
  | k + 1, j, q, i, x, h, hi => by
    have h' : (bfEx n s lv fi k (j + 1) (bfSt n s lv fi j q))[i]? = some x := h
    rcases Nat.lt_or_ge i (bfSt n s lv fi j q).length with y | y
    · have e := List.getElem?_eq_getElem y
      have e2 := bfEx_pre (n := n) (s := s) (lv := lv) (fi := fi) k (j + 1) _ i _ e
      rw [h'] at e2
      cases e2
      exact bfSt_new e hi
    · exact bfEx_new k (j + 1) _ i x h' y
def fiI (fi : Nat) : Int32 := if fi = 15 then -4 else nI fi
set_option maxRecDepth 100000 in
set_option maxHeartbeats 4000000 in
theorem m_canPass {n : Nat} {f : Nat → Nat} (hn : n ≤ 9) (hf : ∀ i, f i < 3) (hpl : v 39 3 = nI n) (hr : ∀ i, i < n → v 42 i = nI (f i)) (h0 : ∀ v' : am_V, bfRun n 1681 0 [(lnS lnPk f n, 0, 15)] = none → (∀ k, k ≠ 39 → k ≠ 40 → k ≠ 41 → k ≠ 42 → v' k = v k) → Q (some (.int 0)) (am_sh, v', w)) (h1 : ∀ (v' : am_V) (lv fi : Nat), bfRun n 1681 0 [(lnS lnPk f n, 0, 15)] = some (lv, fi) → v' 39 5 = nI lv → v' 39 6 = fiI fi → (∀ k, k ≠ 39 → k ≠ 40 → k ≠ 41 → k ≠ 42 → v' k = v k) → Q (some (.int 1)) (am_sh, v', w)) : am_run (am_kc L xs) I am_m (d + 4) 26 [.ref 39] (am_sh, v, w) 0 0 Q := by
  refine en_X2_canPass rfl ?_
  intro P hP
  have h3 := p3_le hn
  have hs0 : lnS lnPk f n < 3 ^ n := lnP_lt n (fun i _ => hf i)
  generalize hR : bfRun n 1681 0 [(lnS lnPk f n, 0, 15)] = R at h0 h1
  have main : ∀ (s0 : Nat), s0 < 3 ^ n → bfRun n 1681 0 [(s0, 0, 15)] = R → ∀ (u0 : am_V), RC n [(s0, 0, 15)] u0 → u0 39 3 = nI n → u0 39 5 = 0 → (∀ k, k ≠ 39 → k ≠ 40 → k ≠ 41 → k ≠ 42 → u0 k = v k) → P (cd_X2_canPass.drop 20, [some (.ref 39), some (.int (nI 1)), some (.int (nI 0)), none, none], [], (am_sh, u0, w), 0, 0) := by
    intro s0 hs0 hR u0 hq0 hu03 hu05 hfr0
    obtain ⟨hb0, ho0⟩ := BI.start (n := n) hs0
    have loop : ∀ (k i E M : Nat) (u : am_V) (q : List (Nat × Nat × Nat)) (l3 l4 : Option Value), i + k = 1681 → RC n q u → BI n s0 q → i ≤ E → E ≤ q.length → u 39 3 = nI n → u 39 5 = nI M → M ≤ 1680 → (∀ (j : Nat) (x : Nat × Nat × Nat), q[j]? = some x → (E ≤ j → x.2.1 = M + 1) ∧ (i ≤ j → j < E → x.2.1 = M)) → (∀ (s lv fi : Nat), q[i]? = some (s, lv, fi) → bfOI q lv (bfC fi 0)) → (∀ k, k ≠ 39 → k ≠ 40 → k ≠ 41 → k ≠ 42 → u k = v k) → bfRun n k i q = R → P (cd_X2_canPass.drop 20, [some (.ref 39), some (.int (nI E)), some (.int (nI i)), l3, l4], [], (am_sh, u, w), 0, 0) := by
      intro k
      induction k with
      | zero =>
        intro i E M u q l3 l4 hi hq hb hiE hE
        have := hb.len hn
        omega
      | succ k ih =>
        intro i E M u q l3 l4 hi hq hb hiE hE hu3 hu5 hM hlev hoi hfr hres
        have hlen := hb.len hn
        obtain ⟨r1, r2, r3⟩ := hq
        cases hx : q[i]? with
        | none =>
          have hge : q.length ≤ i := List.getElem?_eq_none_iff.mp hx
          unfold bfRun at hres
          rw [hx] at hres
          ((repeat' first | refine hP _ ?_ | fail); try dsimp only)
          rw [r1]
          refine ⟨fun _ => ?_, fun z => absurd (nI_le hge (by omega)) z⟩
          ((repeat' first | refine hP _ ?_ | fail); try dsimp only)
          exact ⟨Or.inl rfl, h0 u hres.symm hfr⟩
        | some x =>
          obtain ⟨s, lv, fi⟩ := x
          have hlt : i < q.length := (List.getElem?_eq_some_iff.mp hx).1
          have hmem : (s, lv, fi) ∈ q := List.mem_of_getElem? hx
          have hsn : s < 3 ^ n := (hb.cn _ hmem).1
          have hlv : lv ≤ q.length := hb.lv _ hmem
          have hfi15 : fi ≤ 15 := by
            rcases hb.fi hmem with y | y <;> omega
          have hoi' := hoi s lv fi hx
          unfold bfRun at hres
          rw [hx] at hres
          dsimp only at hres
          -- the item, its level is the count of moves
          have work : ∀ (u : am_V) (E : Nat), RC n q u → i < E → E ≤ q.length → u 39 3 = nI n → u 39 5 = nI lv → (∀ (j : Nat) (x : Nat × Nat × Nat), q[j]? = some x → (E ≤ j → x.2.1 = lv + 1) ∧ (i ≤ j → j < E → x.2.1 = lv)) → (∀ k, k ≠ 39 → k ≠ 40 → k ≠ 41 → k ≠ 42 → u k = v k) → P (cd_X2_canPass.drop 41, [some (.ref 39), some (.int (nI E)), some (.int (nI i)), l3, l4], [], (am_sh, u, w), 0, 0) := by
            intro u E hq hiE hE hu3 hu5 hlev hfr
            obtain ⟨r1, r2, r3⟩ := hq
            have e40 : u 40 i = nI (s * 16 + fi) := r2 i (s, lv, fi) hx
            have ediv : nI (s * 16 + fi) / 16 = nI s := by
              rw [show nI (s * 16 + fi) / 16 = nI ((s * 16 + fi) / 16) from pk_div (d := 16) (by omega) (by decide) (by decide), show (s * 16 + fi) / 16 = s by omega]
            have erem : am_rem (nI (s * 16 + fi)) 16 = nI fi := by
              rw [show am_rem (nI (s * 16 + fi)) 16 = nI ((s * 16 + fi) % 16) from pk_rem (d := 16) (by omega) (by decide) (by decide), show (s * 16 + fi) % 16 = fi by omega]
            ((repeat' first | refine hP _ ?_ | fail); try dsimp only)
            refine ⟨vp_in_nI (by omega) (by omega), ?_⟩
            ((repeat' first | refine hP _ ?_ | fail); try dsimp only)
            rw [nI_clamp (by omega), e40]
            refine ⟨by decide, ?_⟩
            rw [ediv]
            ((repeat' first | refine hP _ ?_ | fail); try dsimp only)
            refine ⟨vp_in_nI (by omega) (by omega), ?_⟩
            ((repeat' first | refine hP _ ?_ | fail); try dsimp only)
            rw [nI_clamp (by omega), e40]
            refine ⟨by decide, ?_⟩
            rw [erem]
            ((repeat' first | refine hP _ ?_ | fail); try dsimp only)
            refine m_unpack hn (by omega) hu3 (fun u2 hrow hf2 => ?_)
            have hu23 : u2 39 3 = nI n := by rw [hf2 39 (by decide)]; exact hu3
            ((repeat' first | refine hP _ ?_ | fail); try dsimp only)
            refine m_allPassed hn (lnD_lt s) hu23 hrow ?_
            ((repeat' first | refine hP _ ?_ | fail); try dsimp only)
            cases ht : lnT (lnD s) n 0 false with
            | true =>
              rw [ht, if_pos rfl] at hres
              refine ⟨fun z => absurd z (by decide), fun _ => ?_⟩
              have fin : Q (some (.int 1)) (am_sh, am_up u2 39 6 (fiI fi), w) := by
                refine h1 _ lv fi hres.symm ?_ ?_ (fun k a b c e => ?_)
                · rw [am_up_eq, if_neg (fun z => absurd z.2 (by decide)), hf2 39 (by decide)]
                  exact hu5
                · rw [am_up_eq, if_pos ⟨rfl, rfl⟩]
                · rw [am_up_ne _ _ _ a, hf2 k e]
                  exact hfr k a b c e
              ((repeat' first | refine hP _ ?_ | fail); try dsimp only)
              unfold fiI at fin
              by_cases q1 : fi = 15
              · rw [if_pos q1] at fin
                refine ⟨fun z => absurd (by rw [q1]; rfl) z, fun _ => ?_⟩
                ((repeat' first | refine hP _ ?_ | fail); try dsimp only)
                exact ⟨Or.inr rfl, fin⟩
              · rw [if_neg q1] at fin
                refine ⟨fun _ => ?_, fun z => absurd ((nI_eq (b := 15) (by omega) (by omega)).mp z) q1⟩
                ((repeat' first | refine hP _ ?_ | fail); try dsimp only)
                exact ⟨Or.inr rfl, fin⟩
            | false =>
              rw [ht, if_neg (by decide)] at hres
              refine ⟨fun _ => ?_, fun z => absurd rfl z⟩
              ((repeat' first | refine hP _ ?_ | fail); try dsimp only)
              refine m_addMoves (i0 := i) hn (v := u2) (q := q) ⟨by rw [hf2 39 (by decide)]; exact r1, fun j x hx => by rw [hf2 40 (by decide)]; exact r2 j x hx, fun s hs => by rw [hf2 41 (by decide)]; exact r3 s hs⟩ hb hx hoi' hu23 hrow (fun u3 hq3 hb3 ho3 hpre hle hf3 hf39 => ?_)
              have e := ih (i + 1) E lv u3 (bfEx n s lv fi n 0 q) (some (.int (nI s))) (some (.int (nI fi))) (by omega) hq3 hb3 (by omega) (by omega) (by rw [hf39 3 (by decide)]; exact hu23) (by rw [hf39 5 (by decide), hf2 39 (by decide)]; exact hu5) (by omega) (fun j x hjx => ?_) (fun s' lv' fi' hx' => (hb3.next hn (hpre i _ hx) hx' ho3).1) (fun k a b c e => by rw [hf3 k a b c, hf2 k e]; exact hfr k a b c e) hres
              · rw [← nI_1] at e
                ((iterate 2 refine hP _ ?_); try dsimp only)
                exact e
              · have hxlv : i ≤ j → lv ≤ x.2.1 := by
                  intro hij
                  rcases Nat.eq_or_lt_of_le hij with y | y
                  · subst y
                    rw [hpre i _ hx] at hjx
                    cases hjx
                    exact Nat.le_refl _
                  · have hpw := List.pairwise_iff_getElem.mp hb3.so i j (by have := (List.getElem?_eq_some_iff.mp hjx).1; omega) (List.getElem?_eq_some_iff.mp hjx).1 y
                    rw [(List.getElem?_eq_some_iff.mp (hpre i _ hx)).2, (List.getElem?_eq_some_iff.mp hjx).2] at hpw
                    rcases hpw with z | z
                    · exact Nat.le_of_lt z
                    · exact Nat.le_of_eq z.1
                rcases Nat.lt_or_ge j q.length with y | y
                · have hq : q[j]? = some x := by
                    have h4 := List.getElem?_eq_getElem y
                    have h5 := hpre j _ h4
                    rw [hjx] at h5
                    rw [h4, h5]
                  have := hlev j x hq
                  exact ⟨this.1, fun z => this.2 (by omega)⟩
                · refine ⟨fun _ => ?_, fun _ z => absurd z (by omega)⟩
                  -- behind the old ones all are new, one level on
                  exact bfEx_new n 0 q j x hjx y
          -- begins a new level?
          ((repeat' first | refine hP _ ?_ | fail); try dsimp only)
          rw [r1]
          refine ⟨fun z => absurd z (nI_ge hlt (by omega)), fun _ => ?_⟩
          ((repeat' first | refine hP _ ?_ | fail); try dsimp only)
          refine ⟨fun z => absurd z (nI_ge (a := i) (b := 1680) (by omega) (by omega)), fun _ => ?_⟩
          ((repeat' first | refine hP _ ?_ | fail); try dsimp only)
          by_cases hEi : i = E
          · have hl := (hlev i _ hx).1 (by omega)
            have hl' : lv = M + 1 := hl
            refine ⟨fun z => absurd (by rw [hEi]) z, fun _ => ?_⟩
            have e := work (am_up u 39 5 (nI (M + 1))) q.length ⟨by rw [am_up_eq, if_neg (fun z => absurd z.2 (by decide))]; exact r1, fun j x hx => by rw [am_up_ne _ _ _ (by decide)]; exact r2 j x hx, fun s hs => by rw [am_up_ne _ _ _ (by decide)]; exact r3 s hs⟩ hlt (Nat.le_refl _) (by rw [am_up_eq, if_neg (fun z => absurd z.2 (by decide))]; exact hu3) (by rw [am_up_eq, if_pos ⟨rfl, rfl⟩, hl']) (fun j x hjx => ⟨fun z => absurd (List.getElem?_eq_some_iff.mp hjx).1 (by omega), fun z _ => by rw [hl']; exact (hlev j x hjx).1 (by omega)⟩) (fun k a b c e => by rw [am_up_ne _ _ _ a]; exact hfr k a b c e)
            rw [← nI_1, ← hu5, ← r1] at e
            ((iterate 9 refine hP _ ?_); try dsimp only)
            exact e
          · have hlt2 : i < E := by omega
            have hl := (hlev i _ hx).2 (Nat.le_refl _) hlt2
            have hl' : lv = M := hl
            refine ⟨fun _ => ?_, fun z => absurd ((nI_eq (by omega) (by omega)).mp z) hEi⟩
            exact work u E ⟨r1, r2, r3⟩ hlt2 hE hu3 (by rw [hl']; exact hu5) (by rw [hl']; exact hlev) hfr
    exact loop 1681 0 1 0 u0 [(s0, 0, 15)] none none rfl hq0 hb0 (by omega) (Nat.le_refl _) hu03 hu05 (by omega) (fun j x hjx => by
      cases j with
      | zero =>
        cases hjx
        exact ⟨fun z => absurd z (by omega), fun _ _ => rfl⟩
      | succ j => cases hjx) (fun s lv fi hx => by
      cases hx
      exact ho0) hfr0 hR
  ((repeat' first | refine hP _ ?_ | fail); try dsimp only)
  refine m_fill41 (fun v1 hz hf1 => ?_)
  ((repeat' first | refine hP _ ?_ | fail); try dsimp only)
  refine m_packed hn hf (by rw [am_up_eq, if_neg (fun z => absurd z.2 (by decide)), hf1 39 (by decide)]; exact hpl) (fun i hi => by rw [am_up_ne _ _ _ (by decide), hf1 42 (by decide)]; exact hr i hi) ?_
  ((repeat' first | refine hP _ ?_ | fail); try dsimp only)
  refine m_addC (n := n) (q := []) (lv := 0) (fi := 15) hn hs0 (by omega) ⟨by rw [am_up_eq, if_pos ⟨rfl, rfl⟩]; rfl, (fun i x hx => by cases hx), fun s hs => ?_⟩ (by decide) (fun _ => by decide) (fun v2 hq2 hf2 hf3 => ?_)
  · rw [am_up_ne _ _ _ (by decide), hz (s / 32) (by omega)]
    show (0#32).getLsbD (s % 32) = false
    simp
  · have hq2' : RC n [(lnS lnPk f n, 0, 15)] v2 := hq2
    have e := main (lnS lnPk f n) hs0 hR (am_up v2 39 5 0) ⟨by rw [am_up_eq, if_neg (fun z => absurd z.2 (by decide))]; exact hq2'.1, fun j x hx => by rw [am_up_ne _ _ _ (by decide)]; exact hq2'.2.1 j x hx, fun s hs => by rw [am_up_ne _ _ _ (by decide)]; exact hq2'.2.2 s hs⟩ (by rw [am_up_eq, if_neg (fun z => absurd z.2 (by decide)), hf3 3 (by decide), am_up_eq, if_neg (fun z => absurd z.2 (by decide)), hf1 39 (by decide)]; exact hpl) (by rw [am_up_eq, if_pos ⟨rfl, rfl⟩]) (fun k a b c e => by rw [am_up_ne _ _ _ a, hf2 k a b c, am_up_ne _ _ _ a, hf1 k c])
    have e4 : v2 39 4 = nI 1 := hq2'.1
    rw [← e4] at e
    ((iterate 8 refine hP _ ?_); try dsimp only)
    exact e
end M56
