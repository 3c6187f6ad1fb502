/-! ===== THE LAW: a rule's line, read by the reference ===== -/
def lawR (s : List lc_U) (z : Nat) (codes letter from_ half to : Nat → Int32) : Prop := ∀ q l A B, s[q]? = some (l, A, B) → letter q = nI l ∧ ∃ ra rt re : Nat, from_ q = nI ra ∧ half q = nI rt ∧ to q = nI re ∧ re ≤ z ∧ lc_sR codes rt re B ∧ (lc_isA l → lc_sR codes ra rt A)
def rl_fr (v v' : am_V) : Prop := (∀ c, c ≠ 62 → c ≠ 67 → c ≠ 68 → c ≠ 69 → c ≠ 70 → c ≠ 71 → c ≠ 72 → v' c = v c) ∧ ∀ j, j ≠ 7 → j ≠ 9 → j ≠ 10 → j ≠ 11 → j ≠ 12 → j ≠ 13 → j ≠ 14 → v' 62 j = v 62 j
def rl_S (v0 : am_V) (T : Nat → Int32) (n k p : Nat) (s : List lc_U) (u : am_V) : Prop := rdR u T n p ∧ rl_fr v0 u ∧ (s.length = k ∧ k ≤ 16) ∧ u 62 14 = nI k ∧ ∃ z, z ≤ p ∧ u 62 12 = nI z ∧ lawR s z (u 67) (u 69) (u 70) (u 71) (u 72)
theorem rl_fr.x {v0 u u' : am_V} (h : rl_fr v0 u) (h2 : rsx u u') : rl_fr v0 u' := ⟨fun c a b e f g i j => by rw [h2.1 c a b e]; exact h.1 c a b e f g i j, fun j a b c d e f g => by rw [h2.2 j a b c d e f]; exact h.2 j a b c d e f g⟩
theorem rl_fr.u {v0 u : am_V} (h : rl_fr v0 u) {c0 : Nat} (hc : c0 = 69 ∨ c0 = 70 ∨ c0 = 71 ∨ c0 = 72) (j : Nat) (x : Int32) : rl_fr v0 (am_up u c0 j x) := ⟨fun c a b e f g i k => by rw [am_up_ne _ _ _ (by omega)]; exact h.1 c a b e f g i k, fun j a b c d e f g => by rw [am_up_ne _ _ _ (by omega)]; exact h.2 j a b c d e f g⟩
theorem rl_fr.u62 {v0 u : am_V} (h : rl_fr v0 u) {j : Nat} (hj : j = 7 ∨ j = 9 ∨ j = 10 ∨ j = 11 ∨ j = 12 ∨ j = 13 ∨ j = 14) (x : Int32) : rl_fr v0 (am_up u 62 j x) := ⟨fun c a b e f g i k => by rw [am_up_ne _ _ _ a]; exact h.1 c a b e f g i k, fun i a b c d e f g => by rw [am_up_eq, if_neg (fun q => by have := q.2; omega)]; exact h.2 i a b c d e f g⟩
theorem sR_mono {codes codes' : Nat → Int32} {z b e : Nat} {c : List lc_O} (h : lc_sR codes b e c) (he : e ≤ z) (hc : ∀ i, i < z → codes' i = codes i) : lc_sR codes' b e c := by
  obtain ⟨h1, h2, h3⟩ := h
  refine ⟨h1, h2, fun i o hi => ?_⟩
  have := lt_of_get hi
  rw [hc _ (by omega)]
  exact h3 i o hi
theorem lawR_app {s : List lc_U} {z z' k : Nat} {code code' lt lt' fr fr' ha ha' to to' : Nat → Int32} {l : Nat} {A B : List lc_O} (h : lawR s z code lt fr ha to) (hk : s.length = k) (hz : z ≤ z') (he : ∀ i, i < z → code' i = code i) (h1 : ∀ q, q < k → lt' q = lt q ∧ fr' q = fr q ∧ ha' q = ha q ∧ to' q = to q) (hl : lt' k = nI l) (hn : ∃ ra rt re : Nat, fr' k = nI ra ∧ ha' k = nI rt ∧ to' k = nI re ∧ re ≤ z' ∧ lc_sR code' rt re B ∧ (lc_isA l → lc_sR code' ra rt A)) : lawR (s ++ [(l, A, B)]) z' code' lt' fr' ha' to' := by
  intro q l2 A2 B2 hq
  rcases Nat.lt_or_ge q s.length with g | g
  · rw [List.getElem?_append_left g] at hq
    obtain ⟨a1, ra, rt, re, a2, a3, a4, a5, a6, a7⟩ := h q l2 A2 B2 hq
    obtain ⟨b1, b2, b3, b4⟩ := h1 q (by omega)
    exact ⟨by rw [b1, a1], ra, rt, re, by rw [b2, a2], by rw [b3, a3], by rw [b4, a4], by omega, sR_mono a6 a5 he, fun t => sR_mono (a7 t) (by have := a6.1; omega) he⟩
  · rw [List.getElem?_append_right g] at hq
    have := lt_of_get hq
    have hq0 : q = k := by
      simp at this
      omega
    subst hq0
    rw [show q - s.length = 0 by omega] at hq
    have e : (l, A, B) = (l2, A2, B2) := by simpa using hq
    have e1 : l = l2 := congrArg Prod.fst e
    have e2 : A = A2 := congrArg (fun x => x.2.1) e
    have e3 : B = B2 := congrArg (fun x => x.2.2) e
    subst e1 e2 e3
    exact ⟨hl, hn⟩
set_option maxRecDepth 100000 in
set_option maxHeartbeats 4000000 in
theorem m_readsRule {K : am_K} {I : am_I} {d : Nat} {w : am_X} {Q : Option Value → am_H → Prop} {T : Nat → Int32} {n k p : Nat} {s : List lc_U} {v0 u : am_V} (hS : rl_S v0 T n k p s u) (hE : ∀ e u', lawL T n k p s = .error e → rl_fr v0 u' → u' 62 9 = flt e → Q (some (.int 0)) (am_sh, u', w)) (hO : ∀ p1 s1 u', lawL T n k p s = .ok (p1, s1) → rl_S v0 T n (k + 1) p1 s1 u' → Q (some (.int 1)) (am_sh, u', w)) : am_run K I am_m (d + 9) 171 [.ref 62] (am_sh, u, w) 0 0 Q := by
  obtain ⟨hrd, hfr, ⟨hsk, hk⟩, h14, z, hz, h12, hlaw⟩ := hS
  have hn := hrd.2.2.1
  have hpn := hrd.2.2.2
  refine en_X12_readsRule rfl ?_
  intro P hP
  -- a letter
  have good : onl lwL (cc T n p) = true → P (cd_X12_readsRule.drop 24, [some (.ref 62), some (.int (cc T n p))], [], (am_sh, u, w), 0, 0) := by
    intro ho
    have hlt := onl_lt lw_m1 ho
    obtain ⟨hcc, hl, hA, hA2⟩ := lw_c ho
    unfold lawL at hE
    rw [if_pos ho] at hE
    simp only [lawL, if_pos ho] at hO
    ((repeat' first | refine hP _ ?_ | fail); try dsimp only)
    rw [h14]
    refine ⟨fun c16 => ?_, fun c16 => ?_⟩
    rotate_left
    · have c16 : k = 16 := (nI_eq (b := 16) (by omega) (by omega)).mp c16
      rw [if_pos (by omega)] at hE
      ((repeat' first | refine hP _ ?_ | fail); try dsimp only)
      rw [hrd.1.1]
      refine m_wrongAt ?_
      ((repeat' first | refine hP _ ?_ | fail); try dsimp only)
      exact ⟨Or.inl rfl, hE (4, p) _ rfl (hfr.u62 (by omega) _) (by rw [am_up_eq, if_pos ⟨rfl, rfl⟩]; rfl)⟩
    have c16 : k < 16 := by
      rcases Nat.lt_or_ge k 16 with q | q
      · exact q
      · exact absurd (by rw [show k = 16 by omega]; rfl) c16
    rw [if_neg (by omega)] at hE
    simp only [if_neg (show ¬ 16 ≤ k by omega)] at hO
    ((repeat' first | refine hP _ ?_ | fail); try dsimp only)
    rw [h14]
    refine ⟨vp_in_nI (by omega) (by omega), ?_⟩
    dsimp only
    rw [nI_clamp (by omega)]
    ((repeat' first | refine hP _ ?_ | fail); try dsimp only)
    rw [am_up_ne _ _ _ (show (62 : Nat) ≠ 69 by decide), hrd.1.1, nI_1, am_up_eq, if_neg (by decide), am_up_ne _ _ _ (show (62 : Nat) ≠ 69 by decide), h12, am_up_eq, if_neg (by decide), am_up_ne _ _ _ (show (62 : Nat) ≠ 69 by decide), h14]
    refine ⟨vp_in_nI (by omega) (by omega), ?_⟩
    dsimp only
    rw [nI_clamp (by omega)]
    generalize hu3 : am_up (am_up (am_up u 69 k (cc T n p)) 62 7 (nI (p + 1))) 70 k (nI z) = u3
    have f3 : rl_fr v0 u3 := by
      subst hu3
      exact ((hfr.u (by omega) _ _).u62 (by omega) _).u (by omega) _ _
    have e3 : ∀ j, j ≠ 7 → u3 62 j = u 62 j := fun j hj => by
      subst hu3
      rw [am_up_ne _ _ _ (by decide), am_up_eq, if_neg (fun q => hj q.2), am_up_ne _ _ _ (by decide)]
    have e37 : u3 62 7 = nI (p + 1) := by
      subst hu3
      rw [am_up_ne _ _ _ (by decide), am_up_eq, if_pos ⟨rfl, rfl⟩]
    have o3 : ∀ c, c ≠ 62 → c ≠ 69 → c ≠ 70 → u3 c = u c := fun c a b e => by
      subst hu3
      rw [am_up_ne _ _ _ e, am_up_ne _ _ _ a, am_up_ne _ _ _ b]
    have e69 : ∀ q, u3 69 q = if q = k then cc T n p else u 69 q := fun q => by
      subst hu3
      simp [am_up_eq]
    have e70 : ∀ q, u3 70 q = if q = k then nI z else u 70 q := fun q => by
      subst hu3
      simp [am_up_eq]
    clear hu3
    ((repeat' first | refine hP _ ?_ | fail); try dsimp only)
    have x4 : rsx u3 (am_up (am_up u3 62 11 0) 62 13 0) := rsf.x (z := 0) ((rsf.rf.u62 (by omega) _).u62 (by omega) _)
    have q4 : rs_pre (am_up (am_up u3 62 11 0) 62 13 0) T n (p + 1) 0 z [] := by
      refine ⟨hrd.u ?_ ?_ ?_ hlt, ⟨?_, ?_, ?_⟩, trivial, ⟨by show z + 0 ≤ p + 1; omega, by show 0 ≤ p + 1; omega, by omega⟩, fun x hx => absurd hx (by simp)⟩
      · rw [am_up_ne _ _ _ (by decide), am_up_ne _ _ _ (by decide), o3 66 (by decide) (by decide) (by decide)]
      · rw [am_up_eq, if_neg (by decide), am_up_eq, if_neg (by decide), e37]
      · rw [am_up_eq, if_neg (by decide), am_up_eq, if_neg (by decide), e3 8 (by decide)]
      · rw [am_up_eq, if_neg (by decide), am_up_eq, if_pos ⟨rfl, rfl⟩]
        rfl
      · rw [am_up_eq, if_neg (by decide), am_up_eq, if_neg (by decide), e3 12 (by decide), h12]
      · rw [am_up_eq, if_pos ⟨rfl, rfl⟩]
        rfl
    have c4 : am_up (am_up u3 62 11 0) 62 13 0 67 = u 67 := by rw [am_up_ne _ _ _ (by decide), am_up_ne _ _ _ (by decide), o3 67 (by decide) (by decide) (by decide)]
    generalize am_up (am_up u3 62 11 0) 62 13 0 = u4 at x4 q4 c4
    -- behind the amount
    have mid : ∀ (p1 : Nat) (A : List lc_O) (u5 : am_V), amF T n p = some (.ok (p1, A)) → rsx u4 u5 → (∀ i, i < z → u5 67 i = u4 67 i) → rdR u5 T n p1 → u5 62 12 = nI (z + A.length) → cdR (u5 67) z A → P (cd_X12_readsRule.drop 70, [some (.ref 62), some (.int (cc T n p))], [], (am_sh, u5, w), 0, 0) := by
      intro p1 A u5 hA1 f5 g5 r5 h512 c5
      have l1 := am_ok hn hlt hA1
      have x5 : rsx u3 u5 := x4.tr f5
      have h514 : u5 62 14 = nI k := by rw [x5.2 14 (by decide) (by decide) (by decide) (by decide) (by decide) (by decide), e3 14 (by decide), h14]
      ((repeat' first | refine hP _ ?_ | fail); try dsimp only)
      rw [h514, h512]
      refine ⟨vp_in_nI (by omega) (by omega), ?_⟩
      dsimp only
      rw [nI_clamp (by omega)]
      have r6 : rdR (am_up u5 71 k (nI (z + A.length))) T n p1 := r5.u (by rw [am_up_ne _ _ _ (by decide)]) (by rw [am_up_ne _ _ _ (by decide)]; exact r5.1.1) (by rw [am_up_ne _ _ _ (by decide)]) r5.2.2.2
      have hru : ∀ r, tsF T n 2000 p1 = some r → ruF T n p = (match r with
        | .error e => .error e
        | .ok (p2, B) => .ok (p2, (lwN (cc T n p), A, B))) := fun r hr => by
          unfold ruF
          rw [hA1]
          dsimp only
          rw [hr]
          cases r <;> rfl
      ((repeat' first | refine hP _ ?_ | fail); try dsimp only)
      refine m_readsCond (F := 2000) (z := z + A.length) (ts_some hn l1.1) r6 (by rw [am_up_ne _ _ _ (by decide), h512]) (by omega) (fun e u7 he f7 h9 => ?_) (fun p2 B u7 he f7 r7 h712 hb7 c7 => ?_)
      · rw [hru (.error e) he] at hE
        ((repeat' first | refine hP _ ?_ | fail); try dsimp only)
        refine ⟨fun c => absurd rfl c, fun _ => ?_⟩
        ((repeat' first | refine hP _ ?_ | fail); try dsimp only)
        exact ⟨Or.inl rfl, hE e u7 rfl (((f3.x x5).u (by omega) _ _).x f7) h9⟩
      · have l2 := ts_ok hn l1.1 he
        have h714 : u7 62 14 = nI k := by rw [f7.2.1 14 (by decide) (by decide) (by decide) (by decide) (by decide) (by decide), am_up_ne _ _ _ (by decide), h514]
        ((repeat' first | refine hP _ ?_ | fail); try dsimp only)
        refine ⟨fun _ => ?_, fun c => absurd c (by decide)⟩
        ((repeat' first | refine hP _ ?_ | fail); try dsimp only)
        rw [h714, h712]
        refine ⟨vp_in_nI (by omega) (by omega), ?_⟩
        dsimp only
        rw [nI_clamp (by omega)]
        ((repeat' first | refine hP _ ?_ | fail); try dsimp only)
        rw [am_up_ne _ _ _ (show (62 : Nat) ≠ 72 by decide), h714, nI_1]
        have g57 : ∀ i, i < z + A.length → am_up (am_up u7 72 k (nI (z + A.length + B.length))) 62 14 (nI (k + 1)) 67 i = u5 67 i := fun i hi => by
          rw [am_up_ne _ _ _ (by decide), am_up_ne _ _ _ (by decide), f7.2.2 i hi, am_up_ne _ _ _ (by decide)]
        have o5 : ∀ c, c ≠ 62 → c ≠ 67 → c ≠ 68 → c ≠ 69 → c ≠ 70 → u5 c = u c := fun c a b e f g => by rw [x5.1 c a b e, o3 c a f g]
        refine ⟨Or.inr rfl, hO p2 (s ++ [(lwN (cc T n p), A, B)]) _ ?_ ⟨r7.u ?_ ?_ ?_ r7.2.2.2, (((((f3.x x5).u (by omega) _ _).x f7.x).u (by omega) _ _).u62 (by omega) _), ⟨by simp; omega, by omega⟩, ?_, z + A.length + B.length, hb7, ?_, ?_⟩⟩
        · rw [hru (.ok (p2, B)) he]
        · rw [am_up_ne _ _ _ (by decide), am_up_ne _ _ _ (by decide)]
        · rw [am_up_eq, if_neg (by decide), am_up_ne _ _ _ (by decide)]
          exact r7.1.1
        · rw [am_up_eq, if_neg (by decide), am_up_ne _ _ _ (by decide)]
        · rw [am_up_eq, if_pos ⟨rfl, rfl⟩]
        · rw [am_up_eq, if_neg (by decide), am_up_ne _ _ _ (by decide), h712]
        · have k69 : ∀ q, am_up (am_up u7 72 k (nI (z + A.length + B.length))) 62 14 (nI (k + 1)) 69 q = if q = k then cc T n p else u 69 q := fun q => by
            rw [am_up_ne _ _ _ (by decide), am_up_ne _ _ _ (by decide), f7.1 69 (by decide) (by decide) (by decide), am_up_ne _ _ _ (by decide), x5.1 69 (by decide) (by decide) (by decide), e69 q]
          have k70 : ∀ q, am_up (am_up u7 72 k (nI (z + A.length + B.length))) 62 14 (nI (k + 1)) 70 q = if q = k then nI z else u 70 q := fun q => by
            rw [am_up_ne _ _ _ (by decide), am_up_ne _ _ _ (by decide), f7.1 70 (by decide) (by decide) (by decide), am_up_ne _ _ _ (by decide), x5.1 70 (by decide) (by decide) (by decide), e70 q]
          have k71 : ∀ q, am_up (am_up u7 72 k (nI (z + A.length + B.length))) 62 14 (nI (k + 1)) 71 q = if q = k then nI (z + A.length) else u 71 q := fun q => by
            rw [am_up_ne _ _ _ (by decide), am_up_ne _ _ _ (by decide), f7.1 71 (by decide) (by decide) (by decide), am_up_eq]
            by_cases hq : q = k
            · rw [if_pos ⟨rfl, hq⟩, if_pos hq]
            · rw [if_neg (fun t => hq t.2), if_neg hq, o5 71 (by decide) (by decide) (by decide) (by decide) (by decide)]
          have k72 : ∀ q, am_up (am_up u7 72 k (nI (z + A.length + B.length))) 62 14 (nI (k + 1)) 72 q = if q = k then nI (z + A.length + B.length) else u 72 q := fun q => by
            rw [am_up_ne _ _ _ (by decide), am_up_eq]
            by_cases hq : q = k
            · rw [if_pos ⟨rfl, hq⟩, if_pos hq]
            · rw [if_neg (fun t => hq t.2), if_neg hq, f7.1 72 (by decide) (by decide) (by decide), am_up_ne _ _ _ (by decide), o5 72 (by decide) (by decide) (by decide) (by decide) (by decide)]
          have hb := r7.2.2.2
          refine lawR_app hlaw hsk (by omega) (fun i hi => ?_) (fun q hq => ⟨?_, ?_, ?_, ?_⟩) ?_ ⟨z, z + A.length, z + A.length + B.length, ?_, ?_, ?_, Nat.le_refl _, ⟨rfl, by omega, fun i o hi => ?_⟩, fun t => ⟨rfl, by omega, fun i o hi => ?_⟩⟩
          · rw [g57 i (by omega), g5 i hi, c4]
          · rw [k69 q, if_neg (by omega)]
          · rw [k70 q, if_neg (by omega)]
          · rw [k71 q, if_neg (by omega)]
          · rw [k72 q, if_neg (by omega)]
          · rw [k69 k, if_pos rfl]
            exact hcc
          · rw [k70 k, if_pos rfl]
          · rw [k71 k, if_pos rfl]
          · rw [k72 k, if_pos rfl]
          · rw [am_up_ne _ _ _ (by decide), am_up_ne _ _ _ (by decide)]
            exact c7 i o hi
          · have := lt_of_get hi
            rw [g57 _ (by omega)]
            exact c5 i o hi
    -- with an amount
    have wth : onl amL (cc T n p) = true → P (cd_X12_readsRule.drop 65, [some (.ref 62), some (.int (cc T n p))], [], (am_sh, u4, w), 0, 0) := by
      intro ha
      have hA1 : amF T n p = lpr T n 2000 3 (p + 1) 0 := if_pos ha
      ((repeat' first | refine hP _ ?_ | fail); try dsimp only)
      refine m_readsSum (F := 2000) (lp_tot 2000 3 (p + 1) 0 (by omega) hlt (by show 8 * (n - (p + 1)) + 3 ≤ 2000; omega)) (fun x l e => absurd e (by simp)) q4 (fun e u5 he f5 h9 => ?_) (fun p1 A u5 he f5 q5 g5 => ?_)
      · have hru : ruF T n p = .error e := by
          unfold ruF
          rw [hA1.trans he]
        rw [hru] at hE
        ((repeat' first | refine hP _ ?_ | fail); try dsimp only)
        refine ⟨fun c => absurd rfl c, fun _ => ?_⟩
        ((repeat' first | refine hP _ ?_ | fail); try dsimp only)
        exact ⟨Or.inl rfl, hE e u5 rfl ((f3.x x4).x f5.x) h9⟩
      · ((repeat' first | refine hP _ ?_ | fail); try dsimp only)
        exact ⟨fun _ => mid p1 A u5 (hA1.trans he) f5.x f5.2.2 q5.1 q5.2.1.2.1 g5, fun c => absurd c (by decide)⟩
    have wto : onl amL (cc T n p) = false → P (cd_X12_readsRule.drop 70, [some (.ref 62), some (.int (cc T n p))], [], (am_sh, u4, w), 0, 0) := by
      intro ha
      have hA1 : amF T n p = some (.ok (p + 1, [])) := by
        unfold amF
        rw [if_neg (by rw [ha]; decide)]
      exact mid (p + 1) [] u4 hA1 rsx.rf (fun _ _ => rfl) q4.1 q4.2.1.2.1 cdR.nil
    cases ha : onl amL (cc T n p) with
    | true =>
      obtain ⟨n104, n120⟩ := hA2.mp ha
      refine ⟨fun c => absurd c n104, fun _ => ?_⟩
      ((repeat' first | refine hP _ ?_ | fail); try dsimp only)
      exact ⟨fun c => absurd c n120, fun _ => wth ha⟩
    | false =>
      refine ⟨fun _ => wto ha, fun n104 => ?_⟩
      ((repeat' first | refine hP _ ?_ | fail); try dsimp only)
      exact ⟨fun _ => wto ha, fun n120 => absurd (hA2.mpr ⟨n104, n120⟩) (by rw [ha]; decide)⟩
  ((repeat' first | refine hP _ ?_ | fail); try dsimp only)
  refine m_here hrd ?_
  ((repeat' first | refine hP _ ?_ | fail); try dsimp only)
  refine ⟨fun c => good (by rw [c]; decide), fun c1 => ?_⟩
  ((repeat' first | refine hP _ ?_ | fail); try dsimp only)
  refine ⟨fun c => good (by rw [c]; decide), fun c2 => ?_⟩
  ((repeat' first | refine hP _ ?_ | fail); try dsimp only)
  refine ⟨fun c => good (by rw [c]; decide), fun c3 => ?_⟩
  ((repeat' first | refine hP _ ?_ | fail); try dsimp only)
  refine ⟨fun c => good (by rw [c]; decide), fun c4 => ?_⟩
  ((repeat' first | refine hP _ ?_ | fail); try dsimp only)
  refine ⟨fun c => good (by rw [c]; decide), fun c5 => ?_⟩
  have no : onl lwL (cc T n p) = false := onl_no.mpr (by simp [lwL, c1, c2, c3, c4, c5])
  unfold lawL at hE
  rw [if_neg (by rw [no]; decide)] at hE
  ((repeat' first | refine hP _ ?_ | fail); try dsimp only)
  rw [hrd.1.1]
  refine m_wrongAt ?_
  ((repeat' first | refine hP _ ?_ | fail); try dsimp only)
  exact ⟨Or.inl rfl, hE (1, p) _ rfl (hfr.u62 (by omega) _) (by rw [am_up_eq, if_pos ⟨rfl, rfl⟩]; rfl)⟩
