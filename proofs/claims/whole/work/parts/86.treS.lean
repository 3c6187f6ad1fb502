/-! ===== treaties: the reference's sets; pairs moments, act, count ===== -/
def ctB (x : Int32) : Nat := ctP (fun b => bb x b) 16
theorem ctB_lt {x y : Int32} {S S' : Nat → Prop} (hx : tr_set x S) (hy : tr_set y S') (h : ∀ b, b < 16 → S b → S' b) (hne : ¬ y = x) : ctB x < ctB y := by
  have : ∃ b, b < 16 ∧ S' b ∧ ¬ S b := Classical.byContradiction (fun q => hne (ts_ext hy (ts_congr (fun b hb => ⟨h b hb, fun t => Classical.byContradiction (fun z => q ⟨b, hb, t, z⟩)⟩) hx)))
  obtain ⟨b, hb, h1, h2⟩ := this
  refine ct_lt (i := b) (fun j hj q => (hy j (by omega)).mpr ⟨hj, h j hj ((hx j (by omega)).mp q).2⟩) hb ((hy b (by omega)).mpr ⟨hb, h1⟩) ?_
  cases q : bb x b
  · rfl
  · exact absurd ((hx b (by omega)).mp q).2 h2
section M86
variable {K : am_K} {I : am_I} {d : Nat} {v : am_V} {w : am_X} {Q : Option Value → am_H → Prop} {ls : List tr_L}
set_option maxRecDepth 100000 in
set_option maxHeartbeats 4000000 in
theorem m_has1 {x : Int32} {S : Nat → Prop} {b : Nat} (hx : tr_set x S) (hb : b < 16) (h1 : S b → Q (some (.int 1)) (am_sh, v, w)) (h0 : ¬ S b → Q (some (.int 0)) (am_sh, v, w)) : am_run K I am_m (d + 1) 142 [.int x, .int (nI b)] (am_sh, v, w) 0 0 Q := by
  refine m_X12_has ?_
  rcases ts_fhas hx hb with ⟨e, q⟩ | ⟨e, q⟩
  · rw [e]
    exact h1 q
  · rw [e]
    exact h0 q
set_option maxRecDepth 100000 in
set_option maxHeartbeats 4000000 in
theorem m_named (hN : ls.length ≤ 24) (h48 : v 62 48 = nI ls.length) (hln : tr_ln v ls) (h : ∀ x, tr_set x (tr_nm ls) → Q (some (.int x)) (am_sh, v, w)) : am_run K I am_m (d + 1) 201 [.ref 62] (am_sh, v, w) 0 0 Q := by
  refine en_X12_named rfl ?_
  intro P hP
  have key : ∀ (f i : Nat) (x : Int32), i + f = ls.length → tr_set x (tr_nm (ls.take i)) → P (cd_X12_named.drop 4, [some (.ref 62), some (.int x), some (.int (nI i))], [], (am_sh, v, w), 0, 0) := by
    intro f
    induction f with
    | zero =>
      intro i x hi hx
      rw [show i = ls.length by omega, List.take_length] at hx
      ((repeat' first | refine hP _ ?_ | fail); try dsimp only)
      rw [h48]
      refine ⟨fun _ => ?_, fun c => absurd (nI_le (a := ls.length) (b := i) (by omega) (by omega)) c⟩
      ((repeat' first | refine hP _ ?_ | fail); try dsimp only)
      exact h x hx
    | succ f ih =>
      intro i x hi hx
      obtain ⟨⟨p, q, e⟩, hl⟩ : ∃ l, ls[i]? = some l := ⟨_, List.getElem?_eq_getElem (by omega)⟩
      obtain ⟨hp, hq, l88, l89, -⟩ := hln i p q e hl
      ((repeat' first | refine hP _ ?_ | fail); try dsimp only)
      rw [h48]
      refine ⟨fun c => absurd c (nI_ge (by omega) (by omega)), fun _ => ?_⟩
      ((repeat' first | refine hP _ ?_ | fail); try dsimp only)
      refine ⟨vp_in_nI (by omega) (by omega), ?_⟩
      ((repeat' first | refine hP _ ?_ | fail); try dsimp only)
      refine ⟨vp_in_nI (by omega) (by omega), ?_⟩
      dsimp only
      rw [nI_clamp (by omega), l88, l89]
      ((iterate 5 refine hP _ ?_); try dsimp only)
      rw [nI_1]
      refine ih (i + 1) _ (by omega) (ts_congr (fun b _ => ?_) (ts_or (ts_or hx (ts_bit hp)) (ts_bit hq)))
      rw [tk_s hl]
      constructor
      · rintro ((⟨a1, a2, a3, g1, g2⟩ | g) | g)
        · exact ⟨a1, a2, a3, List.mem_append_left _ g1, g2⟩
        · exact ⟨p, q, e, List.mem_append_right _ (by simp), Or.inl g⟩
        · exact ⟨p, q, e, List.mem_append_right _ (by simp), Or.inr g⟩
      · rintro ⟨a1, a2, a3, g1, g2⟩
        rcases List.mem_append.mp g1 with g | g
        · exact Or.inl (Or.inl ⟨a1, a2, a3, g, g2⟩)
        · have g : a1 = p ∧ a2 = q ∧ a3 = e := by simpa using g
          rw [g.1, g.2.1] at g2
          exact g2.elim (fun z => Or.inl (Or.inr z)) Or.inr
  ((iterate 4 refine hP _ ?_); try dsimp only)
  exact key ls.length 0 0 (by omega) (ts_congr (fun b _ => ⟨fun q => q.elim, fun ⟨p, q, t, g, _⟩ => absurd g (by simp)⟩) ts_0)
set_option maxRecDepth 100000 in
set_option maxHeartbeats 4000000 in
theorem m_atOnceR (hN : ls.length ≤ 24) (h48 : v 62 48 = nI ls.length) (hln : tr_ln v ls) {a : Nat} (ha : a < 16) (h : ∀ x, tr_set x (tr_eq ls a) → Q (some (.int x)) (am_sh, v, w)) : am_run K I am_m (d + 2) 206 [.ref 62, .int (nI a)] (am_sh, v, w) 0 0 Q := by
  refine en_X12_atOnceWith rfl ?_
  intro P hP
  have out : ∀ (f : Nat) (x y : Int32) (S B : Nat → Prop) (l4 : Option Value), 17 ≤ ctB y + f → tr_set x S → tr_set y B → S a → (∀ b, b < 16 → B b → S b) → (∀ b, b < 16 → S b → tr_eq ls a b) → (∀ p q, (p, q, true) ∈ ls → (B p ∨ B q) → S p ∧ S q) → P (cd_X12_atOnceWith.drop 6, [some (.ref 62), some (.int (nI a)), some (.int x), some (.int y), l4], [], (am_sh, v, w), 0, 0) := by
    intro f
    induction f with
    | zero =>
      intro x y S B l4 hf
      have := ct_n (r := fun b => bb y b) 16
      unfold ctB at hf
      omega
    | succ f ih =>
      intro x y S B l4 hf hx hy hSa hBS hSe hcl
      ((repeat' first | refine hP _ ?_ | fail); try dsimp only)
      refine ⟨fun c => ?_, fun c => ?_⟩
      · have hSB : ∀ b, b < 16 → S b → B b := fun b hb q => ((hy b (by omega)).mp (by rw [← c]; exact (hx b (by omega)).mpr ⟨hb, q⟩)).2
        ((repeat' first | refine hP _ ?_ | fail); try dsimp only)
        refine h x (ts_congr (fun b hb => ⟨hSe b hb, fun q => ?_⟩) hx)
        have := q (fun z => z < 16 ∧ S z) (fun p r hpr => by
          have t := hln
          have hpr16 := tr_ln_16 hln p r _ hpr
          constructor
          · rintro ⟨z1, z2⟩
            exact ⟨hpr16.2, (hcl p r hpr (Or.inl (hSB p z1 z2))).2⟩
          · rintro ⟨z1, z2⟩
            exact ⟨hpr16.1, (hcl p r hpr (Or.inr (hSB r z1 z2))).1⟩) ⟨ha, hSa⟩
        exact this.2
      · -- a pass over the lines
        have inn : ∀ (g i : Nat) (x2 : Int32) (S2 : Nat → Prop), i + g = ls.length → tr_set x2 S2 → (∀ b, b < 16 → S b → S2 b) → (∀ b, b < 16 → S2 b → tr_eq ls a b) → (∀ k p q, k < i → ls[k]? = some (p, q, true) → (S p ∨ S q) → S2 p ∧ S2 q) → P (cd_X12_atOnceWith.drop 13, [some (.ref 62), some (.int (nI a)), some (.int x2), some (.int x), some (.int (nI i))], [], (am_sh, v, w), 0, 0) := by
          intro g
          induction g with
          | zero =>
            intro i x2 S2 hi hx2 h1 h2 h3
            ((repeat' first | refine hP _ ?_ | fail); try dsimp only)
            rw [h48]
            refine ⟨fun _ => ?_, fun c => absurd (nI_le (a := ls.length) (b := i) (by omega) (by omega)) c⟩
            ((iterate 1 refine hP _ ?_); try dsimp only)
            refine ih x2 x S2 S _ ?_ hx2 hx (h1 a ha hSa) h1 h2 (fun p q hpq => ?_)
            · have := ctB_lt hy hx hBS c
              omega
            · obtain ⟨k, hk⟩ := List.getElem?_of_mem hpq
              have hki : k < i := by
                rcases Nat.lt_or_ge k ls.length with z | z
                · omega
                · rw [List.getElem?_eq_none z] at hk
                  exact absurd hk (by simp)
              exact h3 k p q hki hk
          | succ g ihg =>
            intro i x2 S2 hi hx2 h1 h2 h3
            obtain ⟨⟨p, q, e⟩, hl⟩ : ∃ l, ls[i]? = some l := ⟨_, List.getElem?_eq_getElem (by omega)⟩
            obtain ⟨hp, hq, l88, l89, l93⟩ := hln i p q e hl
            have skip : (e = true → ¬ (S p ∨ S q)) → P (cd_X12_atOnceWith.drop 52, [some (.ref 62), some (.int (nI a)), some (.int x2), some (.int x), some (.int (nI i))], [], (am_sh, v, w), 0, 0) := by
              intro hs
              ((iterate 2 refine hP _ ?_); try dsimp only)
              rw [nI_1]
              refine ihg (i + 1) x2 S2 (by omega) hx2 h1 h2 (fun k p' q' hk hl' t => ?_)
              rcases Nat.lt_or_ge k i with z | z
              · exact h3 k p' q' z hl' t
              · have : k = i := by omega
                subst this
                have ee : (p', q', true) = (p, q, e) := Option.some.inj (hl'.symm.trans hl)
                have e1 : p' = p := congrArg (fun t : tr_L => t.1) ee
                have e2 : q' = q := congrArg (fun t : tr_L => t.2.1) ee
                have e3 : true = e := congrArg (fun t : tr_L => t.2.2) ee
                subst e1 e2
                exact absurd t (hs e3.symm)
            have take : e = true → (S p ∨ S q) → P (cd_X12_atOnceWith.drop 36, [some (.ref 62), some (.int (nI a)), some (.int x2), some (.int x), some (.int (nI i))], [], (am_sh, v, w), 0, 0) := by
              intro he hs
              subst he
              have eq : tr_eq ls p q := tr_eq_ln (List.mem_of_getElem? hl)
              have ep : tr_eq ls a p := hs.elim (fun z => hSe p hp z) (fun z => tr_eq_tr (hSe q hq z) (tr_eq_sy eq))
              ((repeat' first | refine hP _ ?_ | fail); try dsimp only)
              refine ⟨vp_in_nI (by omega) (by omega), ?_⟩
              ((repeat' first | refine hP _ ?_ | fail); try dsimp only)
              refine ⟨vp_in_nI (by omega) (by omega), ?_⟩
              dsimp only
              rw [nI_clamp (by omega), l88, l89]
              ((iterate 5 refine hP _ ?_); try dsimp only)
              rw [nI_1]
              refine ihg (i + 1) _ (fun b => (S2 b ∨ b = p) ∨ b = q) (by omega) (ts_or (ts_or hx2 (ts_bit hp)) (ts_bit hq)) (fun b hb t => Or.inl (Or.inl (h1 b hb t))) (fun b hb t => ?_) (fun k p' q' hk hl' t => ?_)
              · rcases t with (t | t) | t
                · exact h2 b hb t
                · rw [t]
                  exact ep
                · rw [t]
                  exact tr_eq_tr ep eq
              · rcases Nat.lt_or_ge k i with z | z
                · have := h3 k p' q' z hl' t
                  exact ⟨Or.inl (Or.inl this.1), Or.inl (Or.inl this.2)⟩
                · have : k = i := by omega
                  subst this
                  have ee : (p', q', true) = (p, q, true) := Option.some.inj (hl'.symm.trans hl)
                  have e1 : p' = p := congrArg (fun t : tr_L => t.1) ee
                  have e2 : q' = q := congrArg (fun t : tr_L => t.2.1) ee
                  exact ⟨Or.inl (Or.inr e1), Or.inr e2⟩
            ((repeat' first | refine hP _ ?_ | fail); try dsimp only)
            rw [h48]
            refine ⟨fun c => absurd c (nI_ge (by omega) (by omega)), fun _ => ?_⟩
            ((repeat' first | refine hP _ ?_ | fail); try dsimp only)
            refine ⟨vp_in_nI (by omega) (by omega), ?_⟩
            ((repeat' first | refine hP _ ?_ | fail); try dsimp only)
            rw [nI_clamp (by omega), l93]
            cases e with
            | false => exact ⟨fun _ => skip (fun z => absurd z (by decide)), fun c => absurd rfl c⟩
            | true =>
              refine ⟨fun c => absurd c (by decide), fun _ => ?_⟩
              ((repeat' first | refine hP _ ?_ | fail); try dsimp only)
              refine ⟨vp_in_nI (by omega) (by omega), ?_⟩
              ((repeat' first | refine hP _ ?_ | fail); try dsimp only)
              rw [nI_clamp (by omega), l88]
              refine m_has1 hx hp (fun t => ?_) (fun t1 => ?_)
              · ((repeat' first | refine hP _ ?_ | fail); try dsimp only)
                exact ⟨fun _ => take rfl (Or.inl t), fun c => absurd c (by decide)⟩
              · ((repeat' first | refine hP _ ?_ | fail); try dsimp only)
                refine ⟨fun c => absurd rfl c, fun _ => ?_⟩
                ((repeat' first | refine hP _ ?_ | fail); try dsimp only)
                refine ⟨vp_in_nI (by omega) (by omega), ?_⟩
                ((repeat' first | refine hP _ ?_ | fail); try dsimp only)
                rw [nI_clamp (by omega), l89]
                refine m_has1 hx hq (fun t => ?_) (fun t2 => ?_)
                · ((repeat' first | refine hP _ ?_ | fail); try dsimp only)
                  exact ⟨fun c => absurd c (by decide), fun _ => take rfl (Or.inr t)⟩
                · ((repeat' first | refine hP _ ?_ | fail); try dsimp only)
                  exact ⟨fun _ => skip (fun _ z => z.elim t1 t2), fun c => absurd rfl c⟩
        ((iterate 4 refine hP _ ?_); try dsimp only)
        exact inn ls.length 0 x S (by omega) hx (fun _ _ t => t) hSe (fun k _ _ hk => absurd hk (by omega))
  ((iterate 6 refine hP _ ?_); try dsimp only)
  refine out 17 _ 0 (fun b => b = a) (fun _ => False) none (by omega) (ts_bit ha) ts_0 rfl (fun _ _ t => t.elim) (fun b _ t => by rw [t]; exact tr_eq_rf) (fun p q _ t => (t.elim id id).elim)
set_option maxRecDepth 100000 in
set_option maxHeartbeats 4000000 in
theorem m_aheadR (hN : ls.length ≤ 24) (h48 : v 62 48 = nI ls.length) (hln : tr_ln v ls) (hnc : ¬ tr_con ls) {a : Nat} (ha : a < 16) (h : ∀ x, tr_set x (fun b => tr_ah ls b a) → Q (some (.int x)) (am_sh, v, w)) : am_run K I am_m (d + 3) 207 [.ref 62, .int (nI a)] (am_sh, v, w) 0 0 Q := by
  have h16 := tr_ln_16 hln
  refine en_X12_aheadOf rfl ?_
  intro P hP
  have out : ∀ (f : Nat) (x y : Int32) (S B : Nat → Prop) (l4 : Option Value), 17 ≤ ctB y + f → tr_set x S → tr_set y B → S a → (∀ b c, b < 16 → c < 16 → S b → tr_eq ls b c → S c) → (∀ b, b < 16 → B b → S b) → (∀ b, b < 16 → S b → tr_eq ls a b ∨ tr_ah ls b a) → (∀ p q, (p, q, false) ∈ ls → B q → S p) → P (cd_X12_aheadOf.drop 6, [some (.ref 62), some (.int (nI a)), some (.int x), some (.int y), l4], [], (am_sh, v, w), 0, 0) := by
    intro f
    induction f with
    | zero =>
      intro x y S B l4 hf
      have := ct_n (r := fun b => bb y b) 16
      unfold ctB at hf
      omega
    | succ f ih =>
      intro x y S B l4 hf hx hy hSa hcl hBS hSe hpr
      ((repeat' first | refine hP _ ?_ | fail); try dsimp only)
      refine ⟨fun c => ?_, fun c => ?_⟩
      · have hSB : ∀ b, b < 16 → S b → B b := fun b hb q => ((hy b (by omega)).mp (by rw [← c]; exact (hx b (by omega)).mpr ⟨hb, q⟩)).2
        ((repeat' first | refine hP _ ?_ | fail); try dsimp only)
        refine m_atOnceR hN h48 hln ha (fun z hz => ?_)
        ((repeat' first | refine hP _ ?_ | fail); try dsimp only)
        refine h _ (ts_congr (fun b hb => ⟨fun q => ?_, fun q => ⟨?_, fun t => ?_⟩⟩) (ts_diff hx hz))
        · exact (hSe b hb q.1).elim (fun t => absurd t q.2) id
        · have := q (fun z y => (y < 16 ∧ S y) → (z < 16 ∧ S z)) (fun p r hpq => fun t => ⟨(h16 p r _ hpq).1, hpr p r hpq (hSB r t.1 t.2)⟩) (fun p r z hpq => by
            have t := h16 p r _ hpq
            have eq : tr_eq ls p r := tr_eq_ln hpq
            constructor
            · constructor
              · intro g y
                exact ⟨t.2, hcl p r t.1 t.2 (g y).2 eq⟩
              · intro g y
                exact ⟨t.1, hcl r p t.2 t.1 (g y).2 (tr_eq_sy eq)⟩
            · constructor
              · intro g y
                exact g ⟨t.1, hcl r p t.2 t.1 y.2 (tr_eq_sy eq)⟩
              · intro g y
                exact g ⟨t.2, hcl p r t.1 t.2 y.2 eq⟩) (fun p r z g1 g2 y => g1 (g2 y)) ⟨ha, hSa⟩
          exact this.2
        · exact hnc ⟨b, tr_ah_r t q⟩
      · have inn : ∀ (g i : Nat) (x2 : Int32) (S2 : Nat → Prop), i + g = ls.length → tr_set x2 S2 → (∀ b, b < 16 → S b → S2 b) → (∀ b c, b < 16 → c < 16 → S2 b → tr_eq ls b c → S2 c) → (∀ b, b < 16 → S2 b → tr_eq ls a b ∨ tr_ah ls b a) → (∀ k p q, k < i → ls[k]? = some (p, q, false) → S q → S2 p) → P (cd_X12_aheadOf.drop 13, [some (.ref 62), some (.int (nI a)), some (.int x2), some (.int x), some (.int (nI i))], [], (am_sh, v, w), 0, 0) := by
          intro g
          induction g with
          | zero =>
            intro i x2 S2 hi hx2 h1 hc2 h2 h3
            ((repeat' first | refine hP _ ?_ | fail); try dsimp only)
            rw [h48]
            refine ⟨fun _ => ?_, fun c => absurd (nI_le (a := ls.length) (b := i) (by omega) (by omega)) c⟩
            ((iterate 1 refine hP _ ?_); try dsimp only)
            refine ih x2 x S2 S _ ?_ hx2 hx (h1 a ha hSa) hc2 h1 h2 (fun p q hpq => ?_)
            · have := ctB_lt hy hx hBS c
              omega
            · obtain ⟨k, hk⟩ := List.getElem?_of_mem hpq
              have hki : k < i := by
                rcases Nat.lt_or_ge k ls.length with z | z
                · omega
                · rw [List.getElem?_eq_none z] at hk
                  exact absurd hk (by simp)
              exact h3 k p q hki hk
          | succ g ihg =>
            intro i x2 S2 hi hx2 h1 hc2 h2 h3
            obtain ⟨⟨p, q, e⟩, hl⟩ : ∃ l, ls[i]? = some l := ⟨_, List.getElem?_eq_getElem (by omega)⟩
            obtain ⟨hp, hq, l88, l89, l93⟩ := hln i p q e hl
            have skip : (e = false → ¬ S q) → P (cd_X12_aheadOf.drop 38, [some (.ref 62), some (.int (nI a)), some (.int x2), some (.int x), some (.int (nI i))], [], (am_sh, v, w), 0, 0) := by
              intro hs
              ((iterate 2 refine hP _ ?_); try dsimp only)
              rw [nI_1]
              refine ihg (i + 1) x2 S2 (by omega) hx2 h1 hc2 h2 (fun k p' q' hk hl' t => ?_)
              rcases Nat.lt_or_ge k i with z | z
              · exact h3 k p' q' z hl' t
              · have : k = i := by omega
                subst this
                have ee : (p', q', false) = (p, q, e) := Option.some.inj (hl'.symm.trans hl)
                have e1 : p' = p := congrArg (fun t : tr_L => t.1) ee
                have e2 : q' = q := congrArg (fun t : tr_L => t.2.1) ee
                have e3 : false = e := congrArg (fun t : tr_L => t.2.2) ee
                subst e1 e2
                exact absurd t (hs e3.symm)
            ((repeat' first | refine hP _ ?_ | fail); try dsimp only)
            rw [h48]
            refine ⟨fun c => absurd c (nI_ge (by omega) (by omega)), fun _ => ?_⟩
            ((repeat' first | refine hP _ ?_ | fail); try dsimp only)
            refine ⟨vp_in_nI (by omega) (by omega), ?_⟩
            ((repeat' first | refine hP _ ?_ | fail); try dsimp only)
            rw [nI_clamp (by omega), l93]
            cases e with
            | true => exact ⟨fun _ => skip (fun z => absurd z (by decide)), fun c => absurd c (by decide)⟩
            | false =>
              refine ⟨fun c => absurd rfl c, fun _ => ?_⟩
              ((repeat' first | refine hP _ ?_ | fail); try dsimp only)
              refine ⟨vp_in_nI (by omega) (by omega), ?_⟩
              ((repeat' first | refine hP _ ?_ | fail); try dsimp only)
              rw [nI_clamp (by omega), l89]
              refine m_has1 hx hq (fun t => ?_) (fun t => ?_)
              · ((repeat' first | refine hP _ ?_ | fail); try dsimp only)
                refine ⟨fun c => absurd c (by decide), fun _ => ?_⟩
                ((repeat' first | refine hP _ ?_ | fail); try dsimp only)
                refine ⟨vp_in_nI (by omega) (by omega), ?_⟩
                ((repeat' first | refine hP _ ?_ | fail); try dsimp only)
                rw [nI_clamp (by omega), l88]
                refine m_atOnceR hN h48 hln hp (fun z hz => ?_)
                ((iterate 4 refine hP _ ?_); try dsimp only)
                rw [nI_1]
                have ah : tr_ah ls p a := (hSe q hq t).elim (fun y => tr_ah_r (tr_eq_sy y) (tr_ah_ln (List.mem_of_getElem? hl))) (fun y => tr_ah_tr (tr_ah_ln (List.mem_of_getElem? hl)) y)
                refine ihg (i + 1) _ (fun b => S2 b ∨ tr_eq ls p b) (by omega) (ts_or hx2 hz) (fun b hb t => Or.inl (h1 b hb t)) (fun b c hb hc t y => ?_) (fun b hb t => ?_) (fun k p' q' hk hl' t => ?_)
                · rcases t with t | t
                  · exact Or.inl (hc2 b c hb hc t y)
                  · exact Or.inr (tr_eq_tr t y)
                · rcases t with t | t
                  · exact h2 b hb t
                  · exact Or.inr (tr_ah_l t ah)
                · rcases Nat.lt_or_ge k i with z | z
                  · exact Or.inl (h3 k p' q' z hl' t)
                  · have : k = i := by omega
                    subst this
                    have ee : (p', q', false) = (p, q, false) := Option.some.inj (hl'.symm.trans hl)
                    have e1 : p' = p := congrArg (fun t : tr_L => t.1) ee
                    rw [e1]
                    exact Or.inr tr_eq_rf
              · ((repeat' first | refine hP _ ?_ | fail); try dsimp only)
                exact ⟨fun _ => skip (fun _ => t), fun c => absurd rfl c⟩
        ((iterate 4 refine hP _ ?_); try dsimp only)
        exact inn ls.length 0 x S (by omega) hx (fun _ _ t => t) hcl hSe (fun k _ _ hk => absurd hk (by omega))
  ((repeat' first | refine hP _ ?_ | fail); try dsimp only)
  refine m_atOnceR hN h48 hln ha (fun z hz => ?_)
  ((iterate 3 refine hP _ ?_); try dsimp only)
  refine out 17 z 0 (tr_eq ls a) (fun _ => False) none (by omega) hz ts_0 tr_eq_rf (fun b c _ _ t y => tr_eq_tr t y) (fun _ _ t => t.elim) (fun b _ t => Or.inl t) (fun p q _ t => t.elim)
end M86
