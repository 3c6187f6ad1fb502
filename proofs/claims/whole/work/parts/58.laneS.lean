/-! ===== lane: the reference's search ===== -/
def RR (n : Nat) (q : List (Nat × Nat × Nat)) (v : am_V) : Prop := (∀ (i : Nat) (x : Nat × Nat × Nat), q[i]? = some x → v 95 i = nI x.1) ∧ (∀ x, x ∈ q → v 96 x.1 = nI x.2.1 ∧ v 97 x.1 = fiI x.2.2) ∧ ∀ s, s < 3 ^ n → bfHas q s = false → v 96 s = -1
section M58
variable {K : am_K} {I : am_I} {d : Nat} {v : am_V} {w : am_X} {Q : Option Value → am_H → Prop}
set_option maxRecDepth 100000 in
set_option maxHeartbeats 4000000 in
theorem lp_expandR {n s0 s lv fi i0 : Nat} {q : List (Nat × Nat × Nat)} {b4 a1 : Int32} {P : am_C → Prop} (hn : n ≤ 9) (hq : RR n q v) (hb : BI n s0 q) (hi0 : q[i0]? = some (s, lv, fi)) (ho : bfOI q lv (bfC fi 0)) (hpw : ∀ i, i ≤ n → v 98 i = nI (3 ^ i)) (hr : ∀ i, i < n → v 99 i = nI (lnD s i)) (hP : ∀ c, am_step K I (am_run K I am_m (d + 3)) cd_X12_searches 0 0 Q P c → P c) (h : ∀ (v' : am_V) (l7 l8 l9 l10 : Option Value), RR n (bfEx n s lv fi n 0 q) v' → BI n s0 (bfEx n s lv fi n 0 q) → bfOI (bfEx n s lv fi n 0 q) lv (bfC fi n) → (∀ k, k ≠ 95 → k ≠ 96 → k ≠ 97 → v' k = v k) → P (cd_X12_searches.drop 178, [some (.ref 62), some (.int a1), some (.int (nI n)), some (.int (nI (bfEx n s lv fi n 0 q).length)), some (.int b4), some (.int (nI i0)), some (.int (nI s)), l7, l8, l9, l10], [], (am_sh, v', w), 0, 0)) (l7 l8 l9 l10 : Option Value) : P (cd_X12_searches.drop 81, [some (.ref 62), some (.int a1), some (.int (nI n)), some (.int (nI q.length)), some (.int b4), some (.int (nI i0)), some (.int (nI s)), l7, l8, l9, l10], [], (am_sh, v, w), 0, 0) := by
  have h3 := p3_le hn
  have key : ∀ (k j : Nat) (u : am_V) (q' : List (Nat × Nat × Nat)) (l8 l9 l10 : Option Value), j + k = n → RR n q' u → BI n s0 q' → bfOI q' lv (bfC fi j) → (∀ (i : Nat) (x : Nat × Nat × Nat), q[i]? = some x → q'[i]? = some x) → (∀ k, k ≠ 95 → k ≠ 96 → k ≠ 97 → u k = v k) → bfEx n s lv fi k j q' = bfEx n s lv fi n 0 q → P (cd_X12_searches.drop 83, [some (.ref 62), some (.int a1), some (.int (nI n)), some (.int (nI q'.length)), some (.int b4), some (.int (nI i0)), some (.int (nI s)), some (.int (nI j)), l8, l9, l10], [], (am_sh, u, w), 0, 0) := by
    intro k
    induction k with
    | zero =>
      intro j u q' l8 l9 l10 hj hq' hb' ho' hpre hf hres
      have hjn : j = n := by omega
      subst hjn
      have hres' : q' = bfEx j s lv fi j 0 q := hres
      rw [← hres'] at h
      ((repeat' first | refine hP _ ?_ | fail); try dsimp only)
      refine ⟨fun _ => ?_, fun z => absurd (Int32.le_refl _) z⟩
      exact h u _ _ _ _ hq' hb' ho' hf
    | succ k ih =>
      intro j u q' l8 l9 l10 hj hq' hb' ho' hpre hf hres
      have hmem : (s, lv, fi) ∈ q' := List.mem_of_getElem? (hpre i0 _ hi0)
      obtain ⟨st1, st2, st3, st4⟩ := hb'.step hn hmem (show j < n by omega) ho'
      have hsn : s < 3 ^ n := (hb'.cn _ hmem).1
      have hlv : lv ≤ q'.length := hb'.lv _ hmem
      have hlen := hb'.len hn
      have hfi := hb'.fi hmem
      obtain ⟨r1, r2, r3⟩ := hq'
      obtain ⟨rs1, rs2⟩ := r2 _ hmem
      have rs1' : u 96 s = nI lv := rs1
      have rs2' : u 97 s = fiI fi := rs2
      have nx : ∀ (u2 : am_V) (q2 : List (Nat × Nat × Nat)) (l8 l9 l10 : Option Value), q2 = bfSt n s lv fi j q' → RR n q2 u2 → (∀ k, k ≠ 95 → k ≠ 96 → k ≠ 97 → u2 k = v k) → P (cd_X12_searches.drop 176, [some (.ref 62), some (.int a1), some (.int (nI n)), some (.int (nI q2.length)), some (.int b4), some (.int (nI i0)), some (.int (nI s)), some (.int (nI j)), l8, l9, l10], [], (am_sh, u2, w), 0, 0) := by
        intro u2 q2 l8 l9 l10 e2 hr2 hfa
        subst e2
        have e := ih (j + 1) u2 (bfSt n s lv fi j q') l8 l9 l10 (by omega) hr2 st1 st2 (fun i x hx => st3 i x (hpre i x hx)) hfa hres
        rw [← nI_1] at e
        ((iterate 2 refine hP _ ?_); try dsimp only)
        exact e
      have h99 : ∀ i, i < n → u 99 i = nI (lnD s i) := fun i hi => by rw [hf 99 (by decide) (by decide) (by decide)]; exact hr i hi
      have h98 : ∀ i, i ≤ n → u 98 i = nI (3 ^ i) := fun i hi => by rw [hf 98 (by decide) (by decide) (by decide)]; exact hpw i hi
      ((repeat' first | refine hP _ ?_ | fail); try dsimp only)
      refine ⟨fun z => absurd z (nI_ge (by omega) (by omega)), fun _ => ?_⟩
      ((repeat' first | refine hP _ ?_ | fail); try dsimp only)
      refine m_goesTo hn (lnD_lt s) h99 (by omega) (fun hnone => ?_) (fun to hto => ?_)
      · ((repeat' first | refine hP _ ?_ | fail); try dsimp only)
        refine ⟨fun z => absurd rfl z, fun _ => ?_⟩
        ((iterate 1 refine hP _ ?_); try dsimp only)
        exact nx u q' _ _ _ (by unfold bfSt; rw [hnone]) ⟨r1, r2, r3⟩ hf
      · obtain ⟨m1, m2, m3, m4⟩ := lnM_ok hsn (show j < n by omega) hto
        obtain ⟨t1, t2, t3, t4⟩ := lnL_ok (show j < n by omega) hto
        have hst : bfSt n s lv fi j q' = bfAdd q' (lnM s j to, lv + 1, bfC fi j) := by unfold bfSt; rw [hto]
        have hc9 : bfC fi j < 9 := by
          unfold bfC
          split <;> omega
        -- with the first place known
        have go : P (cd_X12_searches.drop 123, [some (.ref 62), some (.int a1), some (.int (nI n)), some (.int (nI q'.length)), some (.int b4), some (.int (nI i0)), some (.int (nI s)), some (.int (nI j)), some (.int (nI to)), some (.int (nI (lnM s j to))), l10], [.int (nI (bfC fi j))], (am_sh, u, w), 0, 0) := by
          ((repeat' first | refine hP _ ?_ | fail); try dsimp only)
          refine ⟨vp_in_nI (by omega) (by omega), ?_⟩
          ((repeat' first | refine hP _ ?_ | fail); try dsimp only)
          rw [nI_clamp (by omega)]
          cases hh : bfHas q' (lnM s j to) with
          | false =>
            have hst2 : bfSt n s lv fi j q' = q' ++ [(lnM s j to, lv + 1, bfC fi j)] := by
              rw [hst]
              unfold bfAdd
              rw [if_neg (by rw [show (lnM s j to, lv + 1, bfC fi j).1 = lnM s j to from rfl, hh]; decide)]
            rw [r3 _ m3 hh]
            refine ⟨fun z => absurd rfl z, fun _ => ?_⟩
            ((repeat' first | refine hP _ ?_ | fail); try dsimp only)
            refine ⟨vp_in_nI (by omega) (by omega), ?_⟩
            ((repeat' first | refine hP _ ?_ | fail); try dsimp only)
            refine ⟨vp_in_nI (by omega) (by omega), ?_⟩
            ((repeat' first | refine hP _ ?_ | fail); try dsimp only)
            refine ⟨vp_in_nI (by omega) (by omega), ?_⟩
            ((repeat' first | refine hP _ ?_ | fail); try dsimp only)
            refine ⟨vp_in_nI (by omega) (by omega), ?_⟩
            dsimp only
            rw [nI_clamp (by omega), nI_clamp (by omega), nI_clamp (by omega), rs1', nI_1]
            have hne : ∀ x, x ∈ q' → x.1 ≠ lnM s j to := fun x hx e => by
              have := bfHas_t.mpr ⟨x, hx, e⟩
              rw [hh] at this
              cases this
            have e := nx (am_up (am_up (am_up u 96 (lnM s j to) (nI (lv + 1))) 97 (lnM s j to) (nI (bfC fi j))) 95 q'.length (nI (lnM s j to))) (q' ++ [(lnM s j to, lv + 1, bfC fi j)]) (some (.int (nI to))) (some (.int (nI (lnM s j to)))) (some (.int (nI (bfC fi j)))) hst2.symm (by
              refine ⟨fun i x hx => ?_, fun x hx => ?_, fun s' hs' hh' => ?_⟩
              · rw [am_up_eq]
                by_cases q1 : i = q'.length
                · rw [if_pos ⟨rfl, q1⟩]
                  rw [q1, List.getElem?_append_right (Nat.le_refl _), Nat.sub_self] at hx
                  cases hx
                  rfl
                · rw [if_neg (fun z => q1 z.2), am_up_ne _ _ _ (by decide), am_up_ne _ _ _ (by decide)]
                  refine r1 i x ?_
                  rcases Nat.lt_or_ge i q'.length with y | y
                  · rw [List.getElem?_append_left y] at hx
                    exact hx
                  · rw [List.getElem?_eq_none (by rw [List.length_append, List.length_singleton]; omega)] at hx
                    cases hx
              · have e96 : ∀ b, am_up (am_up (am_up u 96 (lnM s j to) (nI (lv + 1))) 97 (lnM s j to) (nI (bfC fi j))) 95 q'.length (nI (lnM s j to)) 96 b = if b = lnM s j to then nI (lv + 1) else u 96 b := fun b => by
                  rw [am_up_ne _ _ _ (by decide), am_up_ne _ _ _ (by decide), am_up_eq]
                  simp
                have e97 : ∀ b, am_up (am_up (am_up u 96 (lnM s j to) (nI (lv + 1))) 97 (lnM s j to) (nI (bfC fi j))) 95 q'.length (nI (lnM s j to)) 97 b = if b = lnM s j to then nI (bfC fi j) else u 97 b := fun b => by
                  rw [am_up_ne _ _ _ (by decide), am_up_eq, am_up_ne _ _ _ (by decide)]
                  simp
                rw [e96, e97]
                rcases List.mem_append.mp hx with y | y
                · have := hne x y
                  rw [if_neg this, if_neg this]
                  exact r2 x y
                · rw [List.mem_singleton.mp y, if_pos rfl, if_pos rfl]
                  refine ⟨rfl, ?_⟩
                  unfold fiI
                  rw [if_neg (by show ¬ bfC fi j = 15; omega)]
              · rw [bfHas_app] at hh'
                obtain ⟨y1, y2⟩ := (Bool.or_eq_false_iff).mp hh'
                rw [am_up_ne _ _ _ (by decide), am_up_ne _ _ _ (by decide), am_up_eq, if_neg (fun z => by
                  rw [z.2] at y2
                  rw [show Nat.beq (lnM s j to, lv + 1, bfC fi j).1 (lnM s j to) = true from am_beq _] at y2
                  cases y2)]
                exact r3 s' hs' y1) (fun k a b c => by rw [am_up_ne _ _ _ a, am_up_ne _ _ _ c, am_up_ne _ _ _ b]; exact hf k a b c)
            rw [List.length_append, List.length_singleton, ← nI_1] at e
            ((iterate 5 refine hP _ ?_); try dsimp only)
            exact e
          | true =>
            have hst2 : bfSt n s lv fi j q' = q' := by
              rw [hst]
              unfold bfAdd
              rw [if_pos hh]
            obtain ⟨x, hx, hxe⟩ := bfHas_t.mp hh
            obtain ⟨xl, xf⟩ := r2 x hx
            rw [hxe] at xl xf
            have hxl : x.2.1 ≤ q'.length := hb'.lv _ hx
            rw [xl]
            refine ⟨fun _ => ?_, fun z => absurd z (cu_m1 (by omega)).1⟩
            ((repeat' first | refine hP _ ?_ | fail); try dsimp only)
            refine ⟨vp_in_nI (by omega) (by omega), ?_⟩
            ((repeat' first | refine hP _ ?_ | fail); try dsimp only)
            refine ⟨vp_in_nI (by omega) (by omega), ?_⟩
            ((repeat' first | refine hP _ ?_ | fail); try dsimp only)
            rw [nI_clamp (by omega), nI_clamp (by omega), xl, rs1', nI_1]
            refine ⟨fun _ => ?_, fun z => ?_⟩
            · exact nx u q' _ _ _ hst2.symm ⟨r1, r2, r3⟩ hf
            · have heq : x.2.1 = lv + 1 := (nI_eq (by omega) (by omega)).mp z
              have hxc : x.2.2 ≤ bfC fi j := by
                rcases ho' x hx with y | y
                · omega
                · exact y.2
              have xf' : u 97 (lnM s j to) = nI x.2.2 := by
                rw [xf]
                unfold fiI
                rw [if_neg (by omega)]
              ((repeat' first | refine hP _ ?_ | fail); try dsimp only)
              refine ⟨vp_in_nI (by omega) (by omega), ?_⟩
              ((repeat' first | refine hP _ ?_ | fail); try dsimp only)
              refine m_X12_min ?_
              rw [nI_clamp (by omega), xf', f_mnN2 (by omega) (by omega), Nat.min_eq_left hxc, ← xf']
              ((repeat' first | refine hP _ ?_ | fail); try dsimp only)
              refine ⟨vp_in_nI (by omega) (by omega), ?_⟩
              dsimp only
              rw [nI_clamp (by omega)]
              have esame : am_up u 97 (lnM s j to) (u 97 (lnM s j to)) = u := by
                funext a b
                rw [am_up_eq]
                split
                · rename_i y
                  rw [y.1, y.2]
                · rfl
              rw [esame]
              exact nx u q' _ _ _ hst2.symm ⟨r1, r2, r3⟩ hf
        ((repeat' first | refine hP _ ?_ | fail); try dsimp only)
        refine ⟨fun _ => ?_, fun z => absurd z (cu_m1 (by omega)).1⟩
        ((repeat' first | refine hP _ ?_ | fail); try dsimp only)
        refine ⟨vp_in_nI (by omega) (by omega), ?_⟩
        ((repeat' first | refine hP _ ?_ | fail); try dsimp only)
        refine ⟨vp_in_nI (by omega) (by omega), ?_⟩
        ((repeat' first | refine hP _ ?_ | fail); try dsimp only)
        refine ⟨vp_in_nI (by omega) (by omega), ?_⟩
        dsimp only
        rw [nI_clamp (by omega), nI_clamp (by omega), h99 j (by omega), h98 to (by omega), h98 j (by omega)]
        ((iterate 4 refine hP _ ?_); try dsimp only)
        rw [lnMove2 m2]
        ((repeat' first | refine hP _ ?_ | fail); try dsimp only)
        refine ⟨vp_in_nI (by omega) (by omega), ?_⟩
        ((repeat' first | refine hP _ ?_ | fail); try dsimp only)
        rw [nI_clamp (by omega), rs1']
        by_cases q1 : lv = 0
        · have hfi15 : fi = 15 := by omega
          refine ⟨fun z => absurd (by rw [q1]; rfl) z, fun _ => ?_⟩
          have e : bfC fi j = j := by unfold bfC; rw [if_pos hfi15]
          rw [e] at go
          ((iterate 2 refine hP _ ?_); try dsimp only)
          exact go
        · have hfi15 : ¬ fi = 15 := by omega
          refine ⟨fun _ => ?_, fun z => absurd ((nI_eq (b := 0) (by omega) (by omega)).mp z) q1⟩
          have e : bfC fi j = fi := by unfold bfC; rw [if_neg hfi15]
          have e2 : u 97 s = nI fi := by
            rw [rs2']
            unfold fiI
            rw [if_neg hfi15]
          rw [e] at go
          ((repeat' first | refine hP _ ?_ | fail); try dsimp only)
          refine ⟨vp_in_nI (by omega) (by omega), ?_⟩
          dsimp only
          rw [nI_clamp (by omega), e2]
          exact go
  ((iterate 2 refine hP _ ?_); try dsimp only)
  exact key n 0 v q l8 l9 l10 (by omega) hq hb ho (fun _ _ e => e) (fun _ _ _ _ => rfl) rfl
end M58
