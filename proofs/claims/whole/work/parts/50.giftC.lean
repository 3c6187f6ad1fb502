/-! ===== gifts: the class ===== -/
theorem gSrt_at : ∀ {l : List Nat}, gSrt l → ∀ {i j : Nat}, i ≤ j → j < l.length → l.getD i 0 ≤ l.getD j 0
  | [], _, i, j, _, h => absurd h (by simp)
  | h :: t, hs, 0, 0, _, _ => Nat.le_refl _
  | h :: t, hs, 0, j + 1, _, hj => by
    have hj2 : j < t.length := by simpa using hj
    have : t[j]'hj2 ∈ t := List.getElem_mem _
    have e := hs.1 _ this
    simp only [List.getD_cons_zero, List.getD_cons_succ]
    rw [List.getD_eq_getElem?_getD, List.getElem?_eq_getElem hj2]
    exact e
  | h :: t, hs, i + 1, 0, hij, _ => absurd hij (by omega)
  | h :: t, hs, i + 1, j + 1, hij, hj => by
    simp only [List.getD_cons_succ]
    exact gSrt_at hs.2 (by omega) (by simpa using hj)
theorem gIns_place {x : Nat} : ∀ {l : List Nat} {p : Nat}, gSrt l → p ≤ l.length → (p = 0 ∨ l.getD (p - 1) 0 ≤ x) → (∀ j, p ≤ j → j < l.length → x < l.getD j 0) → ∀ j, j ≤ l.length → (gIns x l).getD j 0 = if j < p then l.getD j 0 else if j = p then x else l.getD (j - 1) 0
  | [], p, _, hp, _, _, j, hj => by
    have hp0 : p = 0 := by simpa using hp
    have hj0 : j = 0 := by simpa using hj
    subst hp0 hj0
    rfl
  | h :: t, p, hs, hp, h1, h2, j, hj => by
    by_cases q : x ≤ h
    · simp only [gIns, if_pos q]
      have all : ∀ i, i < p → (h :: t).getD i 0 = x := by
        intro i hi
        have hp1 : (h :: t).getD (p - 1) 0 ≤ x := by
          rcases h1 with z | z
          · omega
          · exact z
        have a1 := gSrt_at hs (show i ≤ p - 1 by omega) (by omega)
        have a2 := gSrt_at hs (Nat.zero_le i) (by omega)
        simp only [List.getD_cons_zero] at a2
        omega
      cases j with
      | zero =>
        by_cases z : 0 < p
        · rw [if_pos z, all 0 z]
          rfl
        · rw [if_neg z, if_pos (by omega)]
          rfl
      | succ j =>
        rw [List.getD_cons_succ]
        by_cases z : j + 1 < p
        · rw [if_pos z, all j (by omega), all (j + 1) z]
        · rw [if_neg z]
          by_cases z2 : j + 1 = p
          · rw [if_pos z2, all j (by omega)]
          · rw [if_neg z2]
            rfl
    · simp only [gIns, if_neg q]
      have hp1 : 0 < p := by
        rcases Nat.eq_zero_or_pos p with z | z
        · subst z
          have := h2 0 (Nat.le_refl _) (by simp)
          simp only [List.getD_cons_zero] at this
          omega
        · exact z
      cases j with
      | zero =>
        rw [if_pos hp1]
        rfl
      | succ j =>
        have hl : (h :: t).length = t.length + 1 := rfl
        rw [List.getD_cons_succ, gIns_place (p := p - 1) hs.2 (by omega) (by
          rcases Nat.eq_zero_or_pos (p - 1) with z | z
          · exact Or.inl z
          · refine Or.inr ?_
            rcases h1 with y | y
            · omega
            · rw [show p - 1 = (p - 1 - 1) + 1 by omega, List.getD_cons_succ] at y
              exact y) (fun i hi1 hi2 => by
          have := h2 (i + 1) (by omega) (by omega)
          rw [List.getD_cons_succ] at this
          exact this) j (by omega)]
        by_cases z : j < p - 1
        · rw [if_pos z, if_pos (by omega), List.getD_cons_succ]
        · rw [if_neg z, if_neg (show ¬ j + 1 < p by omega)]
          by_cases z2 : j = p - 1
          · rw [if_pos z2, if_pos (show j + 1 = p by omega)]
          · rw [if_neg z2, if_neg (show ¬ j + 1 = p by omega), show j + 1 - 1 = (j - 1) + 1 by omega, List.getD_cons_succ]
section M50
variable {K : am_K} {I : am_I} {d : Nat} {v : am_V} {w : am_X} {Q : Option Value → am_H → Prop}
theorem gA_lt' {a : Nat → Nat} (h : ∀ j, a j < 256) {m i : Nat} : (gA a m).getD i 0 < 256 := by
  rw [List.getD_eq_getElem?_getD]
  cases e : (gA a m)[i]? with
  | none => exact Nat.zero_lt_succ _
  | some x => exact gA_lt h m x (List.mem_of_getElem? e)
set_option maxRecDepth 100000 in
set_option maxHeartbeats 4000000 in
theorem m_sortInto {c from' n tn : Nat} {t : Nat → Nat} (hc : c = 44 ∨ c = 45) (hn : n ≤ 8) (hfr : from' ≤ 8) (ht : ∀ j, t j < 256) (htn : v 1 1 = nI tn) (htn2 : tn ≤ 260) (hnt : from' + n ≤ tn) (hv : ∀ j, j < tn → v 2 j = nI (t j)) (h : ∀ v' : am_V, (∀ j, j < n → v' c j = nI ((gA (fun i => t (from' + i)) n).getD j 0)) → (∀ k, k ≠ c → v' k = v k) → Q none (am_sh, v', w)) : am_run K I am_m (d + 2) 5 [.ref 43, .ref c, .int (nI from'), .int (nI n)] (am_sh, v, w) 0 0 Q := by
  refine en_X0_sortInto rfl ?_
  intro P hP
  have hcc : c ≠ 1 ∧ c ≠ 2 := by omega
  have outer : ∀ (k i : Nat) (u : am_V) (l5 l6 : Option Value), ((l5 = none ∧ l6 = none) ∨ ∃ z5 z6, l5 = some (.int z5) ∧ l6 = some (.int z6)) → i + k = n → (∀ j, j < i → u c j = nI ((gA (fun i => t (from' + i)) i).getD j 0)) → (∀ k, k ≠ c → u k = v k) → P (cd_X0_sortInto.drop 2, [some (.ref 43), some (.ref c), some (.int (nI from')), some (.int (nI n)), some (.int (nI i)), l5, l6], [], (am_sh, u, w), 0, 0) := by
    intro k
    induction k with
    | zero =>
      intro i u l5 l6 hl hi hu hf
      have hin : i = n := by omega
      subst hin
      ((repeat' first | refine hP _ ?_ | fail); try dsimp only)
      refine ⟨fun _ => ?_, fun z => absurd (Int32.le_refl _) z⟩
      ((repeat' first | refine hP _ ?_ | fail); try dsimp only)
      exact h u hu hf
    | succ k ih =>
      intro i u l5 l6 hl hi hu hf
      have hlen : (gA (fun i => t (from' + i)) i).length = i := gA_len i
      have hsrt : gSrt (gA (fun i => t (from' + i)) i) := gA_srt i
      have hlt := fun j => gA_lt' (a := fun i => t (from' + i)) (fun j => ht _) (m := i) (i := j)
      have hx := ht (from' + i)
      have inner : ∀ (p : Nat) (u2 : am_V), p ≤ i → (∀ j, j < p → u2 c j = nI ((gA (fun i => t (from' + i)) i).getD j 0)) → (∀ j, p < j → j ≤ i → u2 c j = nI ((gA (fun i => t (from' + i)) i).getD (j - 1) 0)) → (∀ j, p ≤ j → j < i → t (from' + i) < (gA (fun i => t (from' + i)) i).getD j 0) → (∀ k, k ≠ c → u2 k = v k) → P (cd_X0_sortInto.drop 18, [some (.ref 43), some (.ref c), some (.int (nI from')), some (.int (nI n)), some (.int (nI i)), some (.int (nI (t (from' + i)))), some (.int (nI p))], [], (am_sh, u2, w), 0, 0) := by
        intro p
        induction p with
        | zero =>
          intro u2 hp h1 h2 h3 hf2
          have e := ih (i + 1) (am_up u2 c 0 (nI (t (from' + i)))) (some (.int (nI (t (from' + i))))) (some (.int (nI 0))) (Or.inr ⟨_, _, rfl, rfl⟩) (by omega) (fun j hj => by
            show _ = nI ((gIns (t (from' + i)) (gA (fun i => t (from' + i)) i)).getD j 0)
            rw [gIns_place (p := 0) hsrt (by omega) (Or.inl rfl) (fun j h1 h2 => h3 j h1 (by omega)) j (by omega), am_up_eq]
            by_cases q : j = 0
            · rw [if_pos ⟨rfl, q⟩, if_neg (by omega), if_pos q]
            · rw [if_neg (fun z => q z.2), if_neg (by omega), if_neg q]
              exact h2 j (by omega) (by omega)) (fun k hk => by rw [am_up_ne _ _ _ hk]; exact hf2 k hk)
          rw [← nI_1] at e
          rcases hc with rfl | rfl
          all_goals
            ((repeat' first | refine hP _ ?_ | fail); try dsimp only)
            refine ⟨fun _ => ?_, fun z => absurd (by decide) z⟩
            ((repeat' first | refine hP _ ?_ | fail); try dsimp only)
            refine ⟨am_vin rfl, ?_⟩
            ((iterate 2 refine hP _ ?_); try dsimp only)
            exact e
        | succ p ihp =>
          intro u2 hp h1 h2 h3 hf2
          have e1 : nI (p + 1) - 1 = nI p := nI_pred p
          have lp := hlt p
          have mv := ihp (am_up u2 c (p + 1) (u2 c p)) (by omega) (fun j hj => by rw [am_up_eq, if_neg (fun z => absurd z.2 (by omega))]; exact h1 j (by omega)) (fun j hj1 hj2 => by
            rw [am_up_eq]
            by_cases q : j = p + 1
            · rw [if_pos ⟨rfl, q⟩, q]
              exact h1 p (by omega)
            · rw [if_neg (fun z => q z.2)]
              exact h2 j (by omega) hj2)
          have pl := ih (i + 1) (am_up u2 c (p + 1) (nI (t (from' + i)))) (some (.int (nI (t (from' + i))))) (some (.int (nI (p + 1)))) (Or.inr ⟨_, _, rfl, rfl⟩) (by omega)
          rw [← nI_1 i] at pl
          rcases hc with rfl | rfl
          all_goals
            ((repeat' first | refine hP _ ?_ | fail); try dsimp only)
            refine ⟨fun z => absurd ((nI_leI (b := 0) (by omega) (by omega)).mp z) (by omega), fun _ => ?_⟩
            ((repeat' first | refine hP _ ?_ | fail); try dsimp only)
            rw [e1]
            refine ⟨vp_in_nI (by omega) (by omega), ?_⟩
            ((repeat' first | refine hP _ ?_ | fail); try dsimp only)
            rw [nI_clamp (by omega), h1 p (by omega)]
            refine ⟨fun z => ?_, fun z => ?_⟩
            · have hle := (nI_leI (by omega) (by omega)).mp z
              ((repeat' first | refine hP _ ?_ | fail); try dsimp only)
              refine ⟨vp_in_nI (by omega) (by omega), ?_⟩
              dsimp only
              rw [nI_clamp (by omega)]
              have e := pl (fun j hj => by
                show _ = nI ((gIns (t (from' + i)) (gA (fun i => t (from' + i)) i)).getD j 0)
                rw [gIns_place (p := p + 1) hsrt (by omega) (Or.inr (by simpa using hle)) (fun j h1 h2 => h3 j h1 (by omega)) j (by omega), am_up_eq]
                by_cases q : j = p + 1
                · rw [if_pos ⟨rfl, q⟩, if_neg (by omega), if_pos q]
                · rw [if_neg (fun z => q z.2)]
                  by_cases q2 : j < p + 1
                  · rw [if_pos q2]
                    exact h1 j q2
                  · rw [if_neg q2, if_neg q]
                    exact h2 j (by omega) (by omega)) (fun k hk => by rw [am_up_ne _ _ _ hk]; exact hf2 k hk)
              ((iterate 2 refine hP _ ?_); try dsimp only)
              exact e
            · have hgt : t (from' + i) < (gA (fun i => t (from' + i)) i).getD p 0 := by
                rcases Nat.lt_or_ge (t (from' + i)) ((gA (fun i => t (from' + i)) i).getD p 0) with y | y
                · exact y
                · exact absurd (nI_le y (by omega)) z
              ((repeat' first | refine hP _ ?_ | fail); try dsimp only)
              rw [e1]
              refine ⟨vp_in_nI (by omega) (by omega), ?_⟩
              ((repeat' first | refine hP _ ?_ | fail); try dsimp only)
              refine ⟨vp_in_nI (by omega) (by omega), ?_⟩
              dsimp only
              rw [nI_clamp (by omega), nI_clamp (by omega)]
              have e := mv (fun j hj1 hj2 => by
                by_cases q : j = p
                · rw [q]; exact hgt
                · exact h3 j (by omega) hj2) (fun k hk => by rw [am_up_ne _ _ _ hk]; exact hf2 k hk)
              rw [← pk_m1 p] at e
              ((iterate 2 refine hP _ ?_); try dsimp only)
              exact e
      have go := inner i u (Nat.le_refl _) hu (fun j h1 h2 => absurd h1 (by omega)) (fun j h1 h2 => absurd h1 (by omega)) hf
      rcases hc with rfl | rfl
      all_goals
        ((repeat' first | refine hP _ ?_ | fail); try dsimp only)
        refine ⟨fun z => absurd z (nI_ge (by omega) (by omega)), fun _ => ?_⟩
        ((repeat' first | refine hP _ ?_ | fail); try dsimp only)
        refine ⟨fun z => absurd ((nI_leI (a := 8) (by omega) (by omega)).mp z) (by omega), fun _ => ?_⟩
        ((repeat' first | refine hP _ ?_ | fail); try dsimp only)
        rw [nI_add]
        refine m_byteAt (n := tn) (by omega) (by rw [hf 1 (by decide)]; exact htn) htn2 ?_
        rw [show u 2 (from' + i) = nI (t (from' + i)) by rw [hf 2 (by decide)]; exact hv _ (by omega)]
        rcases hl with ⟨rfl, rfl⟩ | ⟨z5, z6, rfl, rfl⟩
        · ((iterate 3 refine hP _ ?_); try dsimp only)
          exact go
        · ((iterate 3 refine hP _ ?_); try dsimp only)
          exact go
  ((iterate 2 refine hP _ ?_); try dsimp only)
  exact outer n 0 v none none (Or.inl ⟨rfl, rfl⟩) (by omega) (fun j hj => absurd hj (by omega)) (fun _ _ => rfl)
def gP (m : Bool) (X Y : List Nat) : Nat → Nat
  | 0 => 0
  | i + 1 => gOp m (gP m X Y i) (adif (X.getD i 0) (Y.getD i 0))
theorem gP_cons {m : Bool} {x y : Nat} {X Y : List Nat} : ∀ i, gP m (x :: X) (y :: Y) (i + 1) = gOp m (gP m X Y i) (adif x y)
  | 0 => rfl
  | i + 1 => by
    show gOp m (gP m (x :: X) (y :: Y) (i + 1)) (adif (X.getD i 0) (Y.getD i 0)) = _
    rw [gP_cons i, gOp_comm]
    rfl
theorem gP_eq {m : Bool} : ∀ {X Y : List Nat} {n : Nat}, X.length = n → Y.length = n → gP m X Y n = gS m X Y
  | [], [], n, h1, _ => by subst h1; rfl
  | [], y :: Y, n, h1, h2 => by rw [← h1] at h2; simp at h2
  | x :: X, [], n, h1, h2 => by rw [← h2] at h1; simp at h1
  | x :: X, y :: Y, n, h1, h2 => by
    subst h1
    show gP m (x :: X) (y :: Y) (X.length + 1) = _
    rw [gP_cons, gP_eq rfl (by simpa using h2)]
    rfl
theorem gP_le {m : Bool} {X Y : List Nat} (h1 : ∀ i, X.getD i 0 < 256) (h2 : ∀ i, Y.getD i 0 < 256) : ∀ n, gP m X Y n ≤ 255 * n
  | 0 => Nat.le_refl _
  | n + 1 => by
    have ih := gP_le (m := m) h1 h2 n
    have a := h1 n
    have b := h2 n
    unfold gP gOp adif
    (repeat' split) <;> omega
set_option maxRecDepth 100000 in
set_option maxHeartbeats 4000000 in
theorem m_openGifts {n tn : Nat} {t : Nat → Nat} (hn : n ≤ 8) (ht : ∀ j, t j < 256) (htn : v 1 1 = nI tn) (htn2 : tn ≤ 260) (hnt : 2 * n ≤ tn) (hv : ∀ j, j < tn → v 2 j = nI (t j)) (h : ∀ v' : am_V, v' 43 8 = nI (gS true (gA t n) (gA (fun i => t (n + i)) n)) → v' 43 9 = nI (gS false (gA t n) (gA (fun i => t (n + i)) n)) → (∀ k, k ≠ 43 → k ≠ 44 → k ≠ 45 → v' k = v k) → Q none (am_sh, v', w)) : am_run K I am_m (d + 3) 4 [.ref 43, .int (nI n)] (am_sh, v, w) 0 0 Q := by
  refine en_X0_openGifts rfl ?_
  intro P hP
  ((repeat' first | refine hP _ ?_ | fail); try dsimp only)
  refine m_sortInto (c := 44) (from' := 0) (Or.inl rfl) hn (by omega) ht htn htn2 (by omega) hv (fun v1 s1 f1 => ?_)
  ((repeat' first | refine hP _ ?_ | fail); try dsimp only)
  refine m_sortInto (c := 45) (from' := n) (Or.inr rfl) hn (by omega) ht (by rw [f1 1 (by decide)]; exact htn) htn2 (by omega) (fun j hj => by rw [f1 2 (by decide)]; exact hv j hj) (fun v2 s2 f2 => ?_)
  have e0 : (fun i => t (0 + i)) = t := by funext i; rw [Nat.zero_add]
  rw [e0] at s1
  have l1 : ∀ i, (gA t n).getD i 0 < 256 := fun i => gA_lt' ht
  have l2 : ∀ i, (gA (fun i => t (n + i)) n).getD i 0 < 256 := fun i => gA_lt' (a := fun i => t (n + i)) (fun j => ht _)
  have loop : ∀ (k i : Nat) (u : am_V) (l3 : Option Value), i + k = n → u 43 8 = nI (gP true (gA t n) (gA (fun i => t (n + i)) n) i) → u 43 9 = nI (gP false (gA t n) (gA (fun i => t (n + i)) n) i) → (∀ k, k ≠ 43 → u k = v2 k) → P (cd_X0_openGifts.drop 20, [some (.ref 43), some (.int (nI n)), some (.int (nI i)), l3], [], (am_sh, u, w), 0, 0) := by
    intro k
    induction k with
    | zero =>
      intro i u l3 hi h8 h9 hf
      have hin : i = n := by omega
      subst hin
      ((repeat' first | refine hP _ ?_ | fail); try dsimp only)
      refine ⟨fun _ => ?_, fun z => absurd (Int32.le_refl _) z⟩
      ((repeat' first | refine hP _ ?_ | fail); try dsimp only)
      refine h u (by rw [h8, gP_eq (gA_len _) (gA_len _)]) (by rw [h9, gP_eq (gA_len _) (gA_len _)]) (fun k q1 q2 q3 => by rw [hf k q1, f2 k q3, f1 k q2])
    | succ k ih =>
      intro i u l3 hi h8 h9 hf
      have b1 := gP_le (m := true) l1 l2 i
      have b2 := gP_le (m := false) l1 l2 i
      have a1 := l1 i
      have a2 := l2 i
      have ad : adif ((gA t n).getD i 0) ((gA (fun i => t (n + i)) n).getD i 0) < 256 := by
        unfold adif
        split <;> omega
      ((repeat' first | refine hP _ ?_ | fail); try dsimp only)
      refine ⟨fun z => absurd z (nI_ge (by omega) (by omega)), fun _ => ?_⟩
      ((repeat' first | refine hP _ ?_ | fail); try dsimp only)
      refine ⟨fun z => absurd ((nI_leI (a := 8) (by omega) (by omega)).mp z) (by omega), fun _ => ?_⟩
      ((repeat' first | refine hP _ ?_ | fail); try dsimp only)
      refine ⟨vp_in_nI (by omega) (by omega), ?_⟩
      ((repeat' first | refine hP _ ?_ | fail); try dsimp only)
      refine ⟨vp_in_nI (by omega) (by omega), ?_⟩
      dsimp only
      rw [nI_clamp (by omega), show u 44 i = nI ((gA t n).getD i 0) by rw [hf 44 (by decide), f2 44 (by decide)]; exact s1 i (by omega), show u 45 i = nI ((gA (fun i => t (n + i)) n).getD i 0) by rw [hf 45 (by decide)]; exact s2 i (by omega)]
      generalize hD : adif ((gA t n).getD i 0) ((gA (fun i => t (n + i)) n).getD i 0) = D at ad
      have e := ih (i + 1) (am_up (am_up u 43 8 (nI (max (gP true (gA t n) (gA (fun i => t (n + i)) n) i) D))) 43 9 (nI (gP false (gA t n) (gA (fun i => t (n + i)) n) i + D))) (some (.int (nI D))) (by omega) (by
        simp only [gP, hD, am_up_eq]
        simp [gOp]) (by
        simp only [gP, hD, am_up_eq]
        simp [gOp]) (fun k hk => by rw [am_up_ne _ _ _ hk, am_up_ne _ _ _ hk]; exact hf k hk)
      rw [← nI_1, ← nI_add, ← h9] at e
      ((iterate 3 refine hP _ ?_); try dsimp only)
      rw [ab1 (by omega) (by omega), hD]
      ((iterate 6 refine hP _ ?_); try dsimp only)
      rw [show (if u 43 8 < nI D then nI D else u 43 8) = nI (max (gP true (gA t n) (gA (fun i => t (n + i)) n) i) D) by rw [h8]; exact f_mxN (by omega) (by omega)]
      ((iterate 8 refine hP _ ?_); try dsimp only)
      exact e
  have e := loop n 0 (am_up (am_up v2 43 8 0) 43 9 0) none (by omega) (by simp [am_up_eq]; rfl) (by simp [am_up_eq]; rfl) (fun k hk => by rw [am_up_ne _ _ _ hk, am_up_ne _ _ _ hk])
  ((iterate 8 refine hP _ ?_); try dsimp only)
  exact e
end M50
