/-! ===== treaties: the reference lays the moments, finds the contradiction ===== -/
theorem take_get {ls : List tr_L} {m q : Nat} (h : q < m) : (ls.take m)[q]? = ls[q]? := List.getElem?_take_of_lt h
section M85
variable {K : am_K} {I : am_I} {d : Nat} {v : am_V} {w : am_X} {Q : Option Value → am_H → Prop} {ls : List tr_L}
theorem tr_ln_16 (h : tr_ln v ls) : tr_16 ls := fun x y e hm => by
  obtain ⟨i, hi⟩ := List.getElem?_of_mem hm
  have := h i x y e hi
  exact ⟨this.1, this.2.1⟩
theorem tr_ln_o {u : am_V} (h : tr_ln v ls) (hu : ∀ k, k ≠ 92 → u k = v k) : tr_ln u ls := by
  unfold tr_ln
  rw [hu 88 (by decide), hu 89 (by decide), hu 93 (by decide)]
  exact h
set_option maxRecDepth 100000 in
set_option maxHeartbeats 4000000 in
theorem lp_pass {P : am_C → Prop} {m : Nat} (hm : m ≤ ls.length) (hN : ls.length ≤ 24) (hln : tr_ln v ls) (hP : ∀ c, am_step K I (am_run K I am_m (d + 2)) cd_X12_laysMoments 0 0 Q P c → P c) {rr tt : Int32} {mo0 : Nat → Nat} {g0 : Bool} : ∀ (f k : Nat) (u : am_V) (mo : Nat → Nat) (g : Bool), k + f = m → (∀ c, c ≠ 92 → u c = v c) → mo_at u mo → mo_ok (ls.take m) mo → (∀ a, a < 16 → mo0 a ≤ mo a) → (g = false → g0 = false ∧ mo = mo0 ∧ ∀ q l, q < k → ls[q]? = some l → lfB mo l = false) → ((∀ l, l ∈ ls.take m → lfB mo0 l = false) → mo = mo0 ∧ g = g0) → (∀ M, tr_mo (ls.take m) M → ∀ q x y e, q < k → ls[q]? = some (x, y, e) → (e = false → mo0 x + 1 ≤ mo y) ∧ (e = true → mo0 x ≤ mo y ∧ mo0 y ≤ mo x)) → (∀ (u' : am_V) (mo' : Nat → Nat) (g' : Bool), (∀ c, c ≠ 92 → u' c = v c) → mo_at u' mo' → mo_ok (ls.take m) mo' → (∀ a, a < 16 → mo0 a ≤ mo' a) → (g' = false → g0 = false ∧ mo' = mo0 ∧ ∀ l, l ∈ ls.take m → lfB mo' l = false) → ((∀ l, l ∈ ls.take m → lfB mo0 l = false) → mo' = mo0 ∧ g' = g0) → (∀ M, tr_mo (ls.take m) M → tr_pas (ls.take m) mo0 mo') → P (cd_X12_laysMoments.drop 41, [some (.ref 62), some (.int (nI m)), some (.int (b2i g')), some (.int rr), some (.int tt), some (.int (nI m))], [], (am_sh, u', w), 0, 0)) → P (cd_X12_laysMoments.drop 30, [some (.ref 62), some (.int (nI m)), some (.int (b2i g)), some (.int rr), some (.int tt), some (.int (nI k))], [], (am_sh, u, w), 0, 0) := by
  have h16 : tr_16 (ls.take m) := tr_16_take (tr_ln_16 hln) m
  have mem : ∀ {q : Nat} {l : tr_L}, q < m → ls[q]? = some l → l ∈ ls.take m := fun hq hl => List.mem_of_getElem? (by rw [take_get hq]; exact hl)
  have idx : ∀ {l : tr_L}, l ∈ ls.take m → ∃ q, q < m ∧ ls[q]? = some l := fun hl => by
    obtain ⟨q, hq⟩ := List.getElem?_of_mem hl
    have : q < m := by
      rcases Nat.lt_or_ge q m with z | z
      · exact z
      · rw [List.getElem?_eq_none (by rw [List.length_take]; omega)] at hq
        exact absurd hq (by simp)
    rw [take_get this] at hq
    exact ⟨q, this, hq⟩
  intro f
  induction f with
  | zero =>
    intro k u mo g hk hu hat hok hup hg hst hpas h
    have hk : k = m := by omega
    subst hk
    ((repeat' first | refine hP _ ?_ | fail); try dsimp only)
    refine ⟨fun _ => ?_, fun c => absurd (nI_le (Nat.le_refl k) (by omega)) c⟩
    refine h u mo g hu hat hok hup (fun q => ?_) hst (fun M hM x y e hl => ?_)
    · obtain ⟨a1, a2, a3⟩ := hg q
      refine ⟨a1, a2, fun l hl => ?_⟩
      obtain ⟨i, hi, hi2⟩ := idx hl
      exact a3 i l hi hi2
    · obtain ⟨i, hi, hi2⟩ := idx hl
      exact hpas M hM i x y e hi hi2
  | succ f ih =>
    intro k u mo g hk hu hat hok hup hg hst hpas h
    obtain ⟨⟨x, y, e⟩, hl⟩ : ∃ l, ls[k]? = some l := ⟨_, List.getElem?_eq_getElem (by omega)⟩
    have hmem := mem (show k < m by omega) hl
    ((repeat' first | refine hP _ ?_ | fail); try dsimp only)
    refine ⟨fun c => absurd c (nI_ge (by omega) (by omega)), fun _ => ?_⟩
    ((repeat' first | refine hP _ ?_ | fail); try dsimp only)
    refine m_lifts (by omega) hl (tr_ln_o hln hu) hat (fun a ha => (hok a ha).1.2) (fun u' f' at' => ?_)
    -- the next line
    have nx : ∀ g' : Bool, (g' = false → g = false ∧ lfB mo (x, y, e) = false) → (lfB mo (x, y, e) = false → g' = g) → P (cd_X12_laysMoments.drop 39, [some (.ref 62), some (.int (nI m)), some (.int (b2i g')), some (.int rr), some (.int tt), some (.int (nI k))], [], (am_sh, u', w), 0, 0) := by
      intro g' hg1 hg2
      have up : ∀ a, mo a ≤ lfM mo (x, y, e) a := lfM_up
      ((iterate 2 refine hP _ ?_); try dsimp only)
      rw [nI_1]
      refine ih (k + 1) u' (lfM mo (x, y, e)) g' (by omega) (fun c hc => by rw [f' c hc, hu c hc]) at' (lf_ok h16 hok hmem) (fun a ha => Nat.le_trans (hup a ha) (up a)) (fun q => ?_) (fun q => ?_) (fun M hM q x' y' e' hq hl' => ?_) h
      · obtain ⟨b1, b2⟩ := hg1 q
        obtain ⟨a1, a2, a3⟩ := hg b1
        refine ⟨a1, by rw [lfM_no b2, a2], fun q l hq hl' => ?_⟩
        rw [lfM_no b2]
        rcases Nat.lt_or_ge q k with z | z
        · exact a3 q l z hl'
        · have : q = k := by omega
          subst this
          have : l = (x, y, e) := Option.some.inj (hl'.symm.trans hl)
          rw [this]
          exact b2
      · obtain ⟨a1, a2⟩ := hst q
        have b := q (x, y, e) hmem
        rw [← a1] at b
        exact ⟨by rw [lfM_no b, a1], by rw [hg2 b, a2]⟩
      · have u1 := up x'
        have u2 := up y'
        rcases Nat.lt_or_ge q k with z | z
        · have t := hpas M hM q x' y' e' z hl'
          exact ⟨fun g => by have := t.1 g; omega, fun g => by have := t.2 g; omega⟩
        · have : q = k := by omega
          subst this
          have ee : (x', y', e') = (x, y, e) := Option.some.inj (hl'.symm.trans hl)
          have e1 : x' = x := congrArg (fun t : tr_L => t.1) ee
          have e2 : y' = y := congrArg (fun t : tr_L => t.2.1) ee
          have e3 : e' = e := congrArg (fun t : tr_L => t.2.2) ee
          subst e1 e2 e3
          obtain ⟨hx, hy⟩ := h16 x' y' e' hmem
          have t := lf_pas h16 hok hmem hM
          have m1 := hup x' hx
          have m2 := hup y' hy
          exact ⟨fun g => by have := t.1 g; omega, fun g => by have := t.2 g; omega⟩
    ((repeat' first | refine hP _ ?_ | fail); try dsimp only)
    cases hb : lfB mo (x, y, e) with
    | true =>
      refine ⟨fun c => absurd c (by decide), fun _ => ?_⟩
      ((iterate 2 refine hP _ ?_); try dsimp only)
      exact nx true (fun q => absurd q (by decide)) (fun q => absurd (hb.symm.trans q) (by decide))
    | false =>
      refine ⟨fun _ => ?_, fun c => absurd rfl c⟩
      exact nx g (fun q => ⟨q, hb⟩) (fun _ => rfl)
set_option maxRecDepth 100000 in
set_option maxHeartbeats 4000000 in
theorem m_lays {m : Nat} (hm : m ≤ ls.length) (hN : ls.length ≤ 24) (hln : tr_ln v ls) (h1 : ¬ tr_con (ls.take m) → ∀ (v' : am_V) (M : Nat → Nat), (∀ c, c ≠ 92 → v' c = v c) → tr_mo (ls.take m) M → mo_at v' M → Q (some (.int 1)) (am_sh, v', w)) (h0 : tr_con (ls.take m) → ∀ v' : am_V, (∀ c, c ≠ 92 → v' c = v c) → Q (some (.int 0)) (am_sh, v', w)) : am_run K I am_m (d + 3) 202 [.ref 62, .int (nI m)] (am_sh, v, w) 0 0 Q := by
  have h16 : tr_16 (ls.take m) := tr_16_take (tr_ln_16 hln) m
  refine en_X12_laysMoments rfl ?_
  intro P hP
  -- the end
  have fin : ∀ (u : am_V) (mo : Nat → Nat) (g : Bool) (rr : Nat) (l4 l5 : Option Value), (∀ c, c ≠ 92 → u c = v c) → mo_at u mo → mo_ok (ls.take m) mo → (g = false → ∀ l, l ∈ ls.take m → lfB mo l = false) → (g = true → tr_con (ls.take m)) → P (cd_X12_laysMoments.drop 45, [some (.ref 62), some (.int (nI m)), some (.int (b2i g)), some (.int (nI rr)), l4, l5], [], (am_sh, u, w), 0, 0) := by
    intro u mo g rr l4 l5 hu hat hok hg0 hg1
    have lp : ∀ (f i : Nat), i + f = 16 → (∀ a, a < i → mo a ≤ 16) → P (cd_X12_laysMoments.drop 47, [some (.ref 62), some (.int (nI m)), some (.int (b2i g)), some (.int (nI i)), l4, l5], [], (am_sh, u, w), 0, 0) := by
      intro f
      induction f with
      | zero =>
        intro i hi hle
        ((repeat' first | refine hP _ ?_ | fail); try dsimp only)
        refine ⟨fun _ => ?_, fun c => absurd (nI_le (a := 16) (b := i) (by omega) (by omega)) c⟩
        ((repeat' first | refine hP _ ?_ | fail); try dsimp only)
        cases g with
        | false =>
          have hg0 := hg0 rfl
          refine ⟨fun c => absurd rfl c, fun _ => ?_⟩
          ((repeat' first | refine hP _ ?_ | fail); try dsimp only)
          have hv : tr_val (ls.take m) mo := by
            intro x y e hl
            obtain ⟨hx, hy⟩ := h16 x y e hl
            have t := hg0 _ hl
            have mx := hle x (by omega)
            have my := hle y (by omega)
            have t : ¬ (lfL mo (x, y, e) ≤ 17 ∧ (mo y < lfL mo (x, y, e) ∨ (e = true ∧ mo x < lfL mo (x, y, e)))) := by
              unfold lfB at t
              exact of_decide_eq_false t
            refine ⟨fun q => ?_, fun q => ?_⟩
            · subst q
              have el : lfL mo (x, y, true) = max (mo x) (mo y) := rfl
              rw [el] at t
              have t1 : ¬ mo y < max (mo x) (mo y) := fun z => t ⟨by omega, Or.inl z⟩
              have t2 : ¬ mo x < max (mo x) (mo y) := fun z => t ⟨by omega, Or.inr ⟨rfl, z⟩⟩
              omega
            · subst q
              have el : lfL mo (x, y, false) = mo x + 1 := rfl
              rw [el] at t
              have t1 : ¬ mo y < mo x + 1 := fun z => t ⟨by omega, Or.inl z⟩
              omega
          refine ⟨Or.inr rfl, h1 (tr_val_con hv) u mo hu (fun a ha => ⟨⟨(hok a ha).1.1, hle a (by omega)⟩, fun b hb t => tr_val_ah hv t, ?_⟩) hat⟩
          rcases (hok a ha).2.1 with z | ⟨b, hb, z1, z2⟩
          · exact Or.inl z
          · have := tr_val_ah hv z1
            exact Or.inr ⟨b, hb, z1, by omega⟩
        | true =>
          refine ⟨fun _ => ?_, fun c => absurd c (by decide)⟩
          ((repeat' first | refine hP _ ?_ | fail); try dsimp only)
          exact ⟨Or.inl rfl, h0 (hg1 rfl) u hu⟩
      | succ f ih =>
        intro i hi hle
        have h17 := (hok i (by omega)).1.2
        ((repeat' first | refine hP _ ?_ | fail); try dsimp only)
        refine ⟨fun c => absurd c (nI_ge (b := 16) (by omega) (by omega)), fun _ => ?_⟩
        ((repeat' first | refine hP _ ?_ | fail); try dsimp only)
        refine ⟨vp_in_nI (by omega) (by omega), ?_⟩
        ((repeat' first | refine hP _ ?_ | fail); try dsimp only)
        rw [nI_clamp (by omega), hat i (by omega)]
        refine ⟨fun c => ?_, fun c => ?_⟩
        · have c : mo i ≤ 16 := (nI_leI (b := 16) (by omega) (by omega)).mp c
          ((iterate 2 refine hP _ ?_); try dsimp only)
          rw [nI_1]
          refine ih (i + 1) (by omega) (fun a ha => ?_)
          rcases Nat.lt_or_ge a i with z | z
          · exact hle a z
          · rw [show a = i by omega]
            exact c
        · have c : ¬ mo i ≤ 16 := fun z => c (nI_le (b := 16) z (by omega))
          ((repeat' first | refine hP _ ?_ | fail); try dsimp only)
          refine ⟨Or.inl rfl, h0 (Classical.byContradiction (fun nc => ?_)) u hu⟩
          obtain ⟨M, hM⟩ := tr_mo_ex nc
          have := (hok i (by omega)).2.2 M hM
          have := (hM i (by omega)).1.2
          omega
    ((iterate 2 refine hP _ ?_); try dsimp only)
    exact lp 16 0 rfl (fun a ha => absurd ha (by omega))
  -- the rounds
  have rnd : ∀ (f rr : Nat) (u : am_V) (mo : Nat → Nat) (g : Bool) (l4 l5 : Option Value), rr + f = 17 → (∀ c, c ≠ 92 → u c = v c) → mo_at u mo → mo_ok (ls.take m) mo → (g = false → ∀ l, l ∈ ls.take m → lfB mo l = false) → (1 ≤ rr → ∀ M, tr_mo (ls.take m) M → ∀ a, a < 16 → mo a = M a) → (2 ≤ rr → ∀ M, tr_mo (ls.take m) M → g = false) → P (cd_X12_laysMoments.drop 16, [some (.ref 62), some (.int (nI m)), some (.int (b2i g)), some (.int (nI rr)), l4, l5], [], (am_sh, u, w), 0, 0) := by
    intro f
    induction f with
    | zero =>
      intro rr u mo g l4 l5 hr hu hat hok hg hM1 hM2
      ((repeat' first | refine hP _ ?_ | fail); try dsimp only)
      refine ⟨fun _ => ?_, fun c => absurd (nI_lt (a := 16) (b := rr) (by omega) (by omega)) c⟩
      refine fin u mo g rr l4 l5 hu hat hok hg (fun q => Classical.byContradiction (fun nc => ?_))
      obtain ⟨M, hM⟩ := tr_mo_ex nc
      exact absurd (q.symm.trans (hM2 (by omega) M hM)) (by decide)
    | succ f ih =>
      intro rr u mo g l4 l5 hr hu hat hok hg hM1 hM2
      ((repeat' first | refine hP _ ?_ | fail); try dsimp only)
      refine ⟨fun c => absurd c (nI_nlt (a := 16) (b := rr) (by omega) (by omega)), fun _ => ?_⟩
      ((repeat' first | refine hP _ ?_ | fail); try dsimp only)
      cases g with
      | false =>
        refine ⟨fun _ => ?_, fun c => absurd rfl c⟩
        exact fin u mo false rr l4 l5 hu hat hok hg (fun q => absurd q (by decide))
      | true =>
        refine ⟨fun c => absurd c (by decide), fun _ => ?_⟩
        -- the passes
        have pas : ∀ (f2 t : Nat) (u2 : am_V) (mo2 : Nat → Nat) (g2 : Bool) (l5 : Option Value), t + f2 = 16 → (∀ c, c ≠ 92 → u2 c = v c) → mo_at u2 mo2 → mo_ok (ls.take m) mo2 → (g2 = false → mo2 = mo ∧ (1 ≤ t → ∀ l, l ∈ ls.take m → lfB mo2 l = false)) → ((∀ l, l ∈ ls.take m → lfB mo l = false) → mo2 = mo ∧ g2 = false) → (∀ M, tr_mo (ls.take m) M → (∀ a, a < 16 → mo2 a = M a) ∨ t ≤ fnC mo2 M) → P (cd_X12_laysMoments.drop 25, [some (.ref 62), some (.int (nI m)), some (.int (b2i g2)), some (.int (nI rr)), some (.int (nI t)), l5], [], (am_sh, u2, w), 0, 0) := by
          intro f2
          induction f2 with
          | zero =>
            intro t u2 mo2 g2 l5 ht hu2 hat2 hok2 hg2 hst2 hfn
            have all : ∀ M, tr_mo (ls.take m) M → ∀ a, a < 16 → mo2 a = M a := fun M hM => by
              rcases hfn M hM with z | z
              · exact z
              · exact fnC_16 (by omega)
            ((repeat' first | refine hP _ ?_ | fail); try dsimp only)
            refine ⟨fun _ => ?_, fun c => absurd (nI_le (a := 16) (b := t) (by omega) (by omega)) c⟩
            ((iterate 2 refine hP _ ?_); try dsimp only)
            rw [nI_1]
            refine ih (rr + 1) u2 mo2 g2 _ _ (by omega) hu2 hat2 hok2 (fun q => (hg2 q).2 (by omega)) (fun _ => all) (fun hrr M hM => ?_)
            refine (hst2 (fun l hl => ?_)).2
            obtain ⟨x, y, e⟩ := l
            have e1 := hM1 (by omega) M hM
            have hv := tr_mo_val h16 hM x y e hl
            obtain ⟨hx, hy⟩ := h16 x y e hl
            exact lf_val (fun q => by rw [e1 x hx, e1 y hy]; exact hv.1 q) (fun q => by rw [e1 x hx, e1 y hy]; exact hv.2 q)
          | succ f2 ih2 =>
            intro t u2 mo2 g2 l5 ht hu2 hat2 hok2 hg2 hst2 hfn
            ((repeat' first | refine hP _ ?_ | fail); try dsimp only)
            refine ⟨fun c => absurd c (nI_ge (b := 16) (by omega) (by omega)), fun _ => ?_⟩
            ((iterate 2 refine hP _ ?_); try dsimp only)
            refine lp_pass (mo0 := mo2) (g0 := g2) hm hN hln hP m 0 u2 mo2 g2 (by omega) hu2 hat2 hok2 (fun _ _ => Nat.le_refl _) (fun q => ⟨q, rfl, fun q _ hq => absurd hq (by omega)⟩) (fun _ => ⟨rfl, rfl⟩) (fun M _ q _ _ _ hq => absurd hq (by omega)) (fun u3 mo3 g3 hu3 hat3 hok3 hup3 hg3 hst3 hpas3 => ?_)
            ((iterate 2 refine hP _ ?_); try dsimp only)
            rw [nI_1]
            refine ih2 (t + 1) u3 mo3 g3 _ (by omega) hu3 hat3 hok3 (fun q => ?_) (fun q => ?_) (fun M hM => ?_)
            · obtain ⟨a1, a2, a3⟩ := hg3 q
              exact ⟨by rw [a2, (hg2 a1).1], fun _ => a3⟩
            · obtain ⟨a1, a2⟩ := hst2 q
              have := hst3 (by rw [a1]; exact q)
              exact ⟨by rw [this.1, a1], by rw [this.2, a2]⟩
            · rcases hfn M hM with z | z
              · left
                intro a ha
                have := hup3 a ha
                have := (hok3 a ha).2.2 M hM
                have := z a ha
                omega
              · rcases tr_prog h16 hM (fun a ha => (hok2 a ha).1.1) hup3 (fun a ha => (hok3 a ha).2.2 M hM) (hpas3 M hM) with y | ⟨a, ha, y1, y2⟩
                · left
                  intro a ha
                  have := hup3 a ha
                  have := (hok3 a ha).2.2 M hM
                  have := y a ha
                  omega
                · right
                  have := fnC_lt hup3 (fun a ha => (hok3 a ha).2.2 M hM) ha y1 y2
                  omega
        ((iterate 4 refine hP _ ?_); try dsimp only)
        exact pas 16 0 u mo false _ rfl hu hat hok (fun _ => ⟨rfl, fun z => absurd z (by omega)⟩) (fun _ => ⟨rfl, rfl⟩) (fun M _ => Or.inr (by omega))
  -- all begin at 1
  have ini : ∀ (f i : Nat) (u : am_V), i + f = 16 → (∀ c, c ≠ 92 → u c = v c) → (∀ a, a < i → u 92 a = 1) → P (cd_X12_laysMoments.drop 2, [some (.ref 62), some (.int (nI m)), some (.int (nI i)), none, none, none], [], (am_sh, u, w), 0, 0) := by
    intro f
    induction f with
    | zero =>
      intro i u hi hu h1'
      ((repeat' first | refine hP _ ?_ | fail); try dsimp only)
      refine ⟨fun _ => ?_, fun c => absurd (nI_le (a := 16) (b := i) (by omega) (by omega)) c⟩
      ((iterate 4 refine hP _ ?_); try dsimp only)
      refine rnd 17 0 u (fun _ => 1) true none none rfl hu (fun a ha => h1' a (by omega)) (fun a ha => ⟨⟨Nat.le_refl 1, by show 1 ≤ 17; decide⟩, Or.inl rfl, fun M hM => (hM a ha).1.1⟩) (fun q => absurd q (by decide)) (fun z => absurd z (by omega)) (fun z => absurd z (by omega))
    | succ f ih =>
      intro i u hi hu h1'
      ((repeat' first | refine hP _ ?_ | fail); try dsimp only)
      refine ⟨fun c => absurd c (nI_ge (b := 16) (by omega) (by omega)), fun _ => ?_⟩
      ((repeat' first | refine hP _ ?_ | fail); try dsimp only)
      refine ⟨vp_in_nI (by omega) (by omega), ?_⟩
      dsimp only
      rw [nI_clamp (by omega)]
      ((iterate 2 refine hP _ ?_); try dsimp only)
      rw [nI_1]
      refine ih (i + 1) _ (by omega) (fun c hc => by rw [am_up_ne _ _ _ hc, hu c hc]) (fun a ha => ?_)
      rw [am_up_eq]
      by_cases z : a = i
      · rw [if_pos ⟨rfl, z⟩]
      · rw [if_neg (fun t => z t.2)]
        exact h1' a (by omega)
  ((iterate 2 refine hP _ ?_); try dsimp only)
  exact ini 16 0 v rfl (fun _ _ => rfl) (fun a ha => absurd ha (by omega))
set_option maxRecDepth 100000 in
set_option maxHeartbeats 4000000 in
theorem m_contr (hN : ls.length ≤ 24) (h48 : v 62 48 = nI ls.length) (hln : tr_ln v ls) (hn : ¬ tr_con ls → ∀ v' : am_V, (∀ c, c ≠ 92 → v' c = v c) → Q (some (.int (-2))) (am_sh, v', w)) (hc : ∀ k, k < ls.length → tr_con (ls.take (k + 1)) → ¬ tr_con (ls.take k) → ∀ v' : am_V, (∀ c, c ≠ 92 → v' c = v c) → Q (some (.int (nI k))) (am_sh, v', w)) : am_run K I am_m (d + 4) 204 [.ref 62] (am_sh, v, w) 0 0 Q := by
  refine en_X12_contradictsAt rfl ?_
  intro P hP
  have key : ∀ (f i : Nat) (u : am_V), i + f = ls.length → (∀ c, c ≠ 92 → u c = v c) → ¬ tr_con (ls.take i) → P (cd_X12_contradictsAt.drop 2, [some (.ref 62), some (.int (nI (i + 1)))], [], (am_sh, u, w), 0, 0) := by
    intro f
    induction f with
    | zero =>
      intro i u hi hu hnc
      have hi : i = ls.length := by omega
      subst hi
      rw [List.take_length] at hnc
      ((repeat' first | refine hP _ ?_ | fail); try dsimp only)
      rw [hu 62 (by decide), h48]
      refine ⟨fun _ => ?_, fun c => absurd (nI_lt (a := ls.length) (b := ls.length + 1) (by omega) (by omega)) c⟩
      ((repeat' first | refine hP _ ?_ | fail); try dsimp only)
      exact hn hnc u hu
    | succ f ih =>
      intro i u hi hu hnc
      ((repeat' first | refine hP _ ?_ | fail); try dsimp only)
      rw [hu 62 (by decide), h48]
      refine ⟨fun c => absurd c (nI_nlt (by omega) (by omega)), fun _ => ?_⟩
      ((repeat' first | refine hP _ ?_ | fail); try dsimp only)
      refine m_lays (m := i + 1) (by omega) hN (tr_ln_o hln hu) (fun nc u' M hu' _ _ => ?_) (fun cn u' hu' => ?_)
      · ((repeat' first | refine hP _ ?_ | fail); try dsimp only)
        refine ⟨fun _ => ?_, fun c => absurd c (by decide)⟩
        ((iterate 2 refine hP _ ?_); try dsimp only)
        rw [nI_1]
        exact ih (i + 1) u' (by omega) (fun c hc' => by rw [hu' c hc', hu c hc']) nc
      · ((repeat' first | refine hP _ ?_ | fail); try dsimp only)
        refine ⟨fun c => absurd rfl c, fun _ => ?_⟩
        ((repeat' first | refine hP _ ?_ | fail); try dsimp only)
        rw [nI_pred]
        exact hc i (by omega) cn hnc u' (fun c hc' => by rw [hu' c hc', hu c hc'])
  ((iterate 2 refine hP _ ?_); try dsimp only)
  refine key ls.length 0 v (by omega) (fun _ _ => rfl) ?_
  rintro ⟨a, ha⟩
  exact tr_ah_nil ha
end M85
