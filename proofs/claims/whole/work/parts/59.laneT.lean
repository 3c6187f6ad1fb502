/-! ===== lane: the reference's loop ===== -/
section M59
variable {K : am_K} {I : am_I} {d : Nat} {v : am_V} {w : am_X} {Q : Option Value → am_H → Prop}
theorem bfC_mono {fi j : Nat} : bfC fi 0 ≤ bfC fi j := by
  unfold bfC
  split <;> omega
theorem bfOI_mono {q : List (Nat × Nat × Nat)} {L c e : Nat} (h : bfOI q L c) (hc : c ≤ e) : bfOI q L e := fun x hx => (h x hx).imp id (fun z => ⟨z.1, Nat.le_trans z.2 hc⟩)
set_option maxRecDepth 100000 in
set_option maxHeartbeats 4000000 in
theorem m_searches {n s0 : Nat} (hn1 : 1 ≤ n) (hn : n ≤ 9) (hs0 : s0 < 3 ^ n) (hpw : ∀ i, i ≤ n → v 98 i = nI (3 ^ i)) (h0 : ∀ v' : am_V, bfRun n 1681 0 [(s0, 0, 15)] = none → (∀ k, k ≠ 95 → k ≠ 96 → k ≠ 97 → k ≠ 99 → v' k = v k) → Q (some (.int (-1))) (am_sh, v', w)) (h1 : ∀ (v' : am_V) (lv fi sb : Nat), bfRun n 1681 0 [(s0, 0, 15)] = some (lv, fi) → sb < 3 ^ n → v' 96 sb = nI lv → v' 97 sb = fiI fi → (∀ k, k ≠ 95 → k ≠ 96 → k ≠ 97 → k ≠ 99 → v' k = v k) → Q (some (.int (nI sb))) (am_sh, v', w)) : am_run K I am_m (d + 4) 212 [.ref 62, .int (nI s0), .int (nI n)] (am_sh, v, w) 0 0 Q := by
  refine en_X12_searches rfl ?_
  intro P hP
  have h3 := p3_le hn
  have hp1 : 0 < 3 ^ n := Nat.pow_pos (by decide)
  generalize hR : bfRun n 1681 0 [(s0, 0, 15)] = R at h0 h1
  obtain ⟨hb0, ho0⟩ := BI.start (n := n) hs0
  -- one has been found
  have found : ∀ (lvb fib : Nat), R = some (lvb, fib) → ∀ (k i ib sb : Nat) (u : am_V) (q : List (Nat × Nat × Nat)) (l6 l7 l8 l9 l10 : Option Value), i + k = 1681 → RR n q u → BI n s0 q → ib < i → q[ib]? = some (sb, lvb, fib) → i ≤ q.length → (∀ (s lv fi : Nat), q[i]? = some (s, lv, fi) → bfOI q lv (bfC fi 0)) → (∀ i, i ≤ n → u 98 i = nI (3 ^ i)) → (∀ k, k ≠ 95 → k ≠ 96 → k ≠ 97 → k ≠ 99 → u k = v k) → P (cd_X12_searches.drop 36, [some (.ref 62), some (.int (nI s0)), some (.int (nI n)), some (.int (nI q.length)), some (.int (nI sb)), some (.int (nI i)), l6, l7, l8, l9, l10], [], (am_sh, u, w), 0, 0) := by
    intro lvb fib hRb k
    induction k with
    | zero =>
      intro i ib sb u q l6 l7 l8 l9 l10 hi hq hb hib hxb hiq
      have := hb.len hn
      omega
    | succ k ih =>
      intro i ib sb u q l6 l7 l8 l9 l10 hi hq hb hib hxb hiq hoi hpw hfr
      have hlen := hb.len hn
      have hmb : (sb, lvb, fib) ∈ q := List.mem_of_getElem? hxb
      have hsb : sb < 3 ^ n := (hb.cn _ hmb).1
      have hlb : lvb ≤ q.length := hb.lv _ hmb
      obtain ⟨r1, r2, r3⟩ := hq
      have rb1 : u 96 sb = nI lvb := (r2 _ hmb).1
      have rb2 : u 97 sb = fiI fib := (r2 _ hmb).2
      have fin : Q (some (.int (nI sb))) (am_sh, u, w) := h1 u lvb fib sb hRb hsb rb1 rb2 hfr
      cases hx : q[i]? with
      | none =>
        have hge : q.length ≤ i := List.getElem?_eq_none_iff.mp hx
        ((repeat' first | refine hP _ ?_ | fail); try dsimp only)
        refine ⟨fun _ => ?_, fun z => absurd (nI_le hge (by omega)) z⟩
        ((repeat' first | refine hP _ ?_ | fail); try dsimp only)
        exact fin
      | some x =>
        obtain ⟨s, lv, fi⟩ := x
        have hlt : i < q.length := (List.getElem?_eq_some_iff.mp hx).1
        have hmem : (s, lv, fi) ∈ q := List.mem_of_getElem? hx
        have hsn : s < 3 ^ n := (hb.cn _ hmem).1
        have hlv : lv ≤ q.length := hb.lv _ hmem
        have rx1 : u 96 s = nI lv := (r2 _ hmem).1
        have rx2 : u 97 s = fiI fi := (r2 _ hmem).2
        have hoi' := hoi s lv fi hx
        have hso : lvb < lv ∨ (lvb = lv ∧ fib ≤ fi) := by
          have hpw := List.pairwise_iff_getElem.mp hb.so ib i (List.getElem?_eq_some_iff.mp hxb).1 hlt hib
          rw [(List.getElem?_eq_some_iff.mp hxb).2, (List.getElem?_eq_some_iff.mp hx).2] at hpw
          exact hpw
        ((repeat' first | refine hP _ ?_ | fail); try dsimp only)
        refine ⟨fun z => absurd z (nI_ge hlt (by omega)), fun _ => ?_⟩
        ((repeat' first | refine hP _ ?_ | fail); try dsimp only)
        refine ⟨vp_in_nI (by omega) (by omega), ?_⟩
        dsimp only
        rw [nI_clamp (by omega), show u 95 i = nI s from r1 i (s, lv, fi) hx]
        ((repeat' first | refine hP _ ?_ | fail); try dsimp only)
        refine ⟨fun z => absurd z (cu_m1 (by omega)).1, fun _ => ?_⟩
        ((repeat' first | refine hP _ ?_ | fail); try dsimp only)
        refine ⟨vp_in_nI (by omega) (by omega), ?_⟩
        ((repeat' first | refine hP _ ?_ | fail); try dsimp only)
        refine ⟨vp_in_nI (by omega) (by omega), ?_⟩
        ((repeat' first | refine hP _ ?_ | fail); try dsimp only)
        rw [nI_clamp (by omega), nI_clamp (by omega), rx1, rb1]
        refine ⟨fun z => ?_, fun _ => ?_⟩
        · have hle : lv ≤ lvb := (nI_leI (by omega) (by omega)).mp z
          have heq : lvb = lv ∧ fib ≤ fi := by
            rcases hso with y | y
            · omega
            · exact y
          ((repeat' first | refine hP _ ?_ | fail); try dsimp only)
          refine m_unfolds hn (by omega) (fun u2 hrow hf2 => ?_)
          have hq2 : RR n q u2 := ⟨fun j x hx => by rw [hf2 95 (by decide)]; exact r1 j x hx, fun x hx => by rw [hf2 96 (by decide), hf2 97 (by decide)]; exact r2 x hx, fun s hs hh => by rw [hf2 96 (by decide)]; exact r3 s hs hh⟩
          have hpw2 : ∀ i, i ≤ n → u2 98 i = nI (3 ^ i) := fun i hi => by rw [hf2 98 (by decide)]; exact hpw i hi
          have hfr2 : ∀ k, k ≠ 95 → k ≠ 96 → k ≠ 97 → k ≠ 99 → u2 k = v k := fun k a b c e => by rw [hf2 k e]; exact hfr k a b c e
          ((repeat' first | refine hP _ ?_ | fail); try dsimp only)
          refine m_isThrough hn (lnD_lt s) hrow ?_
          ((repeat' first | refine hP _ ?_ | fail); try dsimp only)
          cases ht : lnT (lnD s) n 0 false with
          | true =>
            refine ⟨fun z => absurd z (by decide), fun _ => ?_⟩
            have e := ih (i + 1) ib sb u2 q (some (.int (nI s))) l7 l8 l9 l10 (by omega) hq2 hb (by omega) hxb (by omega) (fun s' lv' fi' hx' => (hb.next hn hx hx' (bfOI_mono hoi' bfC_mono)).1) hpw2 hfr2
            rw [← nI_1] at e
            ((repeat' first | refine hP _ ?_ | fail); try dsimp only)
            refine ⟨fun z => absurd z (cu_m1 (by omega)).1, fun _ => ?_⟩
            ((repeat' first | refine hP _ ?_ | fail); try dsimp only)
            refine ⟨vp_in_nI (by omega) (by omega), ?_⟩
            ((repeat' first | refine hP _ ?_ | fail); try dsimp only)
            refine ⟨vp_in_nI (by omega) (by omega), ?_⟩
            ((repeat' first | refine hP _ ?_ | fail); try dsimp only)
            rw [nI_clamp (by omega), nI_clamp (by omega), show u2 97 s = fiI fi by rw [hf2 97 (by decide)]; exact rx2, show u2 97 sb = fiI fib by rw [hf2 97 (by decide)]; exact rb2]
            have hge : fiI fib ≤ fiI fi := by
              have a1 := hb.fi hmb
              have a2 := hb.fi hmem
              unfold fiI
              by_cases y1 : fib = 15
              · rw [if_pos y1, if_pos (by omega)]
                exact Int32.le_refl _
              · rw [if_neg y1, if_neg (by omega)]
                exact nI_le heq.2 (by omega)
            refine ⟨fun _ => ?_, fun z => absurd hge z⟩
            ((iterate 2 refine hP _ ?_); try dsimp only)
            exact e
          | false =>
            refine ⟨fun _ => ?_, fun z => absurd rfl z⟩
            refine lp_expandR (i0 := i) (v := u2) (d := d) hn hq2 hb hx hoi' hpw2 hrow hP (fun u3 l7 l8 l9 l10 hq3 hb3 ho3 hf3 => ?_) _ _ _ _
            have e := ih (i + 1) ib sb u3 (bfEx n s lv fi n 0 q) (some (.int (nI s))) l7 l8 l9 l10 (by omega) hq3 hb3 (by omega) (bfEx_pre n 0 q ib _ hxb) (by have := (List.getElem?_eq_some_iff.mp (bfEx_pre (n := n) (s := s) (lv := lv) (fi := fi) n 0 q i _ hx)).1; omega) (fun s' lv' fi' hx' => (hb3.next hn (bfEx_pre n 0 q i _ hx) hx' ho3).1) (fun i hi => by rw [hf3 98 (by decide) (by decide) (by decide)]; exact hpw2 i hi) (fun k a b c e => by rw [hf3 k a b c]; exact hfr2 k a b c e)
            rw [← nI_1] at e
            ((iterate 2 refine hP _ ?_); try dsimp only)
            exact e
        · ((repeat' first | refine hP _ ?_ | fail); try dsimp only)
          exact fin
  have loop : ∀ (k i : Nat) (u : am_V) (q : List (Nat × Nat × Nat)) (l6 l7 l8 l9 l10 : Option Value), i + k = 1681 → RR n q u → BI n s0 q → i ≤ q.length → (∀ (s lv fi : Nat), q[i]? = some (s, lv, fi) → bfOI q lv (bfC fi 0)) → (∀ i, i ≤ n → u 98 i = nI (3 ^ i)) → (∀ k, k ≠ 95 → k ≠ 96 → k ≠ 97 → k ≠ 99 → u k = v k) → bfRun n k i q = R → P (cd_X12_searches.drop 36, [some (.ref 62), some (.int (nI s0)), some (.int (nI n)), some (.int (nI q.length)), some (.int (-1)), some (.int (nI i)), l6, l7, l8, l9, l10], [], (am_sh, u, w), 0, 0) := by
    intro k
    induction k with
    | zero =>
      intro i u q l6 l7 l8 l9 l10 hi hq hb hiq
      have := hb.len hn
      omega
    | succ k ih =>
      intro i u q l6 l7 l8 l9 l10 hi hq hb hiq hoi hpw hfr hres
      have hlen := hb.len hn
      obtain ⟨r1, r2, r3⟩ := hq
      unfold bfRun at hres
      cases hx : q[i]? with
      | none =>
        have hge : q.length ≤ i := List.getElem?_eq_none_iff.mp hx
        rw [hx] at hres
        ((repeat' first | refine hP _ ?_ | fail); try dsimp only)
        refine ⟨fun _ => ?_, fun z => absurd (nI_le hge (by omega)) z⟩
        ((repeat' first | refine hP _ ?_ | fail); try dsimp only)
        exact h0 u hres.symm hfr
      | some x =>
        obtain ⟨s, lv, fi⟩ := x
        have hlt : i < q.length := (List.getElem?_eq_some_iff.mp hx).1
        have hmem : (s, lv, fi) ∈ q := List.mem_of_getElem? hx
        have hsn : s < 3 ^ n := (hb.cn _ hmem).1
        have hoi' := hoi s lv fi hx
        rw [hx] at hres
        dsimp only at hres
        ((repeat' first | refine hP _ ?_ | fail); try dsimp only)
        refine ⟨fun z => absurd z (nI_ge hlt (by omega)), fun _ => ?_⟩
        ((repeat' first | refine hP _ ?_ | fail); try dsimp only)
        refine ⟨vp_in_nI (by omega) (by omega), ?_⟩
        dsimp only
        rw [nI_clamp (by omega), show u 95 i = nI s from r1 i (s, lv, fi) hx]
        ((repeat' first | refine hP _ ?_ | fail); try dsimp only)
        refine ⟨fun _ => ?_, fun z => absurd rfl z⟩
        ((repeat' first | refine hP _ ?_ | fail); try dsimp only)
        refine m_unfolds hn (by omega) (fun u2 hrow hf2 => ?_)
        have hq2 : RR n q u2 := ⟨fun j x hx => by rw [hf2 95 (by decide)]; exact r1 j x hx, fun x hx => by rw [hf2 96 (by decide), hf2 97 (by decide)]; exact r2 x hx, fun s hs hh => by rw [hf2 96 (by decide)]; exact r3 s hs hh⟩
        have hpw2 : ∀ i, i ≤ n → u2 98 i = nI (3 ^ i) := fun i hi => by rw [hf2 98 (by decide)]; exact hpw i hi
        have hfr2 : ∀ k, k ≠ 95 → k ≠ 96 → k ≠ 97 → k ≠ 99 → u2 k = v k := fun k a b c e => by rw [hf2 k e]; exact hfr k a b c e
        ((repeat' first | refine hP _ ?_ | fail); try dsimp only)
        refine m_isThrough hn (lnD_lt s) hrow ?_
        ((repeat' first | refine hP _ ?_ | fail); try dsimp only)
        cases ht : lnT (lnD s) n 0 false with
        | true =>
          rw [ht, if_pos rfl] at hres
          refine ⟨fun z => absurd z (by decide), fun _ => ?_⟩
          have e := found lv fi hres.symm k (i + 1) i s u2 q (some (.int (nI s))) l7 l8 l9 l10 (by omega) hq2 hb (by omega) hx (by omega) (fun s' lv' fi' hx' => (hb.next hn hx hx' (bfOI_mono hoi' bfC_mono)).1) hpw2 hfr2
          rw [← nI_1] at e
          ((repeat' first | refine hP _ ?_ | fail); try dsimp only)
          refine ⟨fun _ => ?_, fun z => absurd rfl z⟩
          ((iterate 5 refine hP _ ?_); try dsimp only)
          exact e
        | false =>
          rw [ht, if_neg (by decide)] at hres
          refine ⟨fun _ => ?_, fun z => absurd rfl z⟩
          refine lp_expandR (i0 := i) (v := u2) (d := d) hn hq2 hb hx hoi' hpw2 hrow hP (fun u3 l7 l8 l9 l10 hq3 hb3 ho3 hf3 => ?_) _ _ _ _
          have e := ih (i + 1) u3 (bfEx n s lv fi n 0 q) (some (.int (nI s))) l7 l8 l9 l10 (by omega) hq3 hb3 (by have := (List.getElem?_eq_some_iff.mp (bfEx_pre (n := n) (s := s) (lv := lv) (fi := fi) n 0 q i _ hx)).1; omega) (fun s' lv' fi' hx' => (hb3.next hn (bfEx_pre n 0 q i _ hx) hx' ho3).1) (fun i hi => by rw [hf3 98 (by decide) (by decide) (by decide)]; exact hpw2 i hi) (fun k a b c e => by rw [hf3 k a b c]; exact hfr2 k a b c e) hres
          rw [← nI_1] at e
          ((iterate 2 refine hP _ ?_); try dsimp only)
          exact e
  have init : ∀ (k i : Nat) (u : am_V), i + k = 3 ^ n → (∀ j, j < i → u 96 j = -1) → (∀ k, k ≠ 96 → u k = v k) → P (cd_X12_searches.drop 2, [some (.ref 62), some (.int (nI s0)), some (.int (nI n)), some (.int (nI i)), none, none, none, none, none, none, none], [], (am_sh, u, w), 0, 0) := by
    intro k
    induction k with
    | zero =>
      intro i u hi hu hf
      ((repeat' first | refine hP _ ?_ | fail); try dsimp only)
      refine ⟨vp_in_nI (by omega) (by omega), ?_⟩
      ((repeat' first | refine hP _ ?_ | fail); try dsimp only)
      rw [nI_clamp (by omega), show u 98 n = nI (3 ^ n) by rw [hf 98 (by decide)]; exact hpw n (Nat.le_refl _)]
      refine ⟨fun _ => ?_, fun z => absurd (nI_le (show 3 ^ n ≤ i by omega) (by omega)) z⟩
      ((repeat' first | refine hP _ ?_ | fail); try dsimp only)
      refine ⟨vp_in_nI (by omega) (by omega), ?_⟩
      ((repeat' first | refine hP _ ?_ | fail); try dsimp only)
      refine ⟨vp_in_nI (by omega) (by omega), ?_⟩
      ((repeat' first | refine hP _ ?_ | fail); try dsimp only)
      refine ⟨am_vin rfl, ?_⟩
      dsimp only
      rw [nI_clamp (by omega), show Int32.toNatClampNeg 0 = 0 from rfl]
      have e := loop 1681 0 (am_up (am_up (am_up u 96 s0 0) 97 s0 (-4)) 95 0 (nI s0)) [(s0, 0, 15)] none none none none none rfl (by
        refine ⟨fun j x hx => ?_, fun x hx => ?_, fun s hs hh => ?_⟩
        · cases j with
          | zero =>
            cases hx
            rw [am_up_eq, if_pos ⟨rfl, rfl⟩]
          | succ j => cases hx
        · rw [List.mem_singleton.mp hx]
          refine ⟨?_, ?_⟩
          · rw [am_up_ne _ _ _ (by decide), am_up_ne _ _ _ (by decide), am_up_eq, if_pos ⟨rfl, rfl⟩]
            rfl
          · rw [am_up_ne _ _ _ (by decide), am_up_eq, if_pos ⟨rfl, rfl⟩]
            rfl
        · rw [am_up_ne _ _ _ (by decide), am_up_ne _ _ _ (by decide), am_up_eq, if_neg (fun z => by
            have := bfHas_t.mpr ⟨(s0, 0, 15), List.mem_singleton.mpr rfl, z.2.symm⟩
            rw [hh] at this
            cases this)]
          exact hu s (by omega)) hb0 (Nat.zero_le _) (fun s lv fi hx => by
        cases hx
        exact ho0) (fun i hi => by rw [am_up_ne _ _ _ (by decide), am_up_ne _ _ _ (by decide), am_up_ne _ _ _ (by decide), hf 98 (by decide)]; exact hpw i hi) (fun k a b c e => by rw [am_up_ne _ _ _ a, am_up_ne _ _ _ c, am_up_ne _ _ _ b, hf k b]) hR
      ((iterate 6 refine hP _ ?_); try dsimp only)
      exact e
    | succ k ih =>
      intro i u hi hu hf
      have e := ih (i + 1) (am_up u 96 i (-1)) (by omega) (fun j hj => by
        rw [am_up_eq]
        by_cases q : j = i
        · rw [if_pos ⟨rfl, q⟩]
        · rw [if_neg (fun z => q z.2)]
          exact hu j (by omega)) (fun k hk => by rw [am_up_ne _ _ _ hk]; exact hf k hk)
      rw [← nI_1] at e
      ((repeat' first | refine hP _ ?_ | fail); try dsimp only)
      refine ⟨vp_in_nI (by omega) (by omega), ?_⟩
      ((repeat' first | refine hP _ ?_ | fail); try dsimp only)
      rw [nI_clamp (by omega), show u 98 n = nI (3 ^ n) by rw [hf 98 (by decide)]; exact hpw n (Nat.le_refl _)]
      refine ⟨fun z => absurd z (nI_ge (by omega) (by omega)), fun _ => ?_⟩
      ((repeat' first | refine hP _ ?_ | fail); try dsimp only)
      refine ⟨vp_in_nI (by omega) (by omega), ?_⟩
      dsimp only
      rw [nI_clamp (by omega)]
      ((iterate 2 refine hP _ ?_); try dsimp only)
      exact e
  ((iterate 2 refine hP _ ?_); try dsimp only)
  exact init (3 ^ n) 0 v (by omega) (fun j hj => absurd hj (by omega)) (fun _ _ => rfl)
end M59
