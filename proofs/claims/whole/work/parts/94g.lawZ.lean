/-! ===== THE LAW: a rule's line, read by the class ===== -/
theorem rd_g {v v' : am_V} {T : Nat → Int32} {n p p' : Nat} (h : rd v 10 T n p) (h1 : v' 1 = v 1) (h2 : v' 2 = v 2) (e1 : v' 10 1 = v 10 1) (e3 : v' 10 3 = nI p') (hp : p' ≤ n) : rd v' 10 T n p' := by
  obtain ⟨⟨a, -⟩, b, c, d, s, e⟩ := h
  exact ⟨⟨by rw [e1]; exact a, e3⟩, by rw [h2]; exact b, ⟨c.1, hp⟩, d, s, by rw [h1]; exact e⟩
set_option maxRecDepth 100000 in
set_option maxHeartbeats 4000000 in
theorem m_lawLine {K : am_K} {d : Nat} {w : am_X} {Q : Option Value → am_H → Prop} {T : Nat → Int32} {n k p : Nat} {s : List lc_U} {v0 u : am_V} (hS : lw_S v0 T n k p s u) (hE : ∀ e u', lawL T n k p s = .error e → lw_fr v0 u' → u' 10 2 = flt e → Q (some (.int 0)) (am_sh, u', w)) (hO : ∀ p1 s1 u', lawL T n k p s = .ok (p1, s1) → lw_S v0 T n (k + 1) p1 s1 u' → Q (some (.int 1)) (am_sh, u', w)) : am_run K am_idx am_m (d + 32) 50 [.ref 10, .int (nI k)] (am_sh, u, w) 0 0 Q := by
  obtain ⟨hrd, hfr, ⟨hsk, hk⟩, hst⟩ := hS
  have hn := hrd.2.2.1.1
  have hpn := hrd.2.2.1.2
  refine en_X4_readLine rfl ?_
  intro P hP
  have start : ∀ (u1 : am_V) (z : Nat), rd u1 10 T n p → lw_fr v0 u1 → u1 11 7 = nI k → z ≤ p → u1 11 6 = nI z → lawC s z (u1 12) (u1 13) (u1 14) (u1 15) → P (cd_X4_readLine.drop 5, [some (.ref 10), some (.int (nI k)), none], [], (am_sh, u1, w), 0, 0) := by
    intro u1 z rd1 fr1 h7 hz h6 hlaw
    ((repeat' first | refine hP _ ?_ | fail); try dsimp only)
    refine m_isOn rdr10 rd1 am_idx_2537 (by decide) (by decide) ?_
    ((repeat' first | refine hP _ ?_ | fail); try dsimp only)
    cases ho : onl [102, 100, 117, 104, 120] (cc T n p) with
    | false =>
      unfold lawL at hE
      rw [if_neg (show ¬ onl lwL (cc T n p) = true by rw [show lwL = [102, 100, 117, 104, 120] from rfl, ho]; decide)] at hE
      refine ⟨fun c => absurd rfl c, fun _ => ?_⟩
      ((repeat' first | refine hP _ ?_ | fail); try dsimp only)
      refine m_cannot rdr10 rd1.1.2 ?_
      ((repeat' first | refine hP _ ?_ | fail); try dsimp only)
      exact ⟨Or.inl rfl, hE (1, p) _ rfl (fun c a b e f g i => by rw [am_up_ne _ _ _ a]; exact fr1 c a b e f g i) (by rw [am_up_eq, if_pos ⟨rfl, rfl⟩])⟩
    | true =>
      have ho : onl lwL (cc T n p) = true := ho
      have hlt := onl_lt lw_m1 ho
      obtain ⟨hcc, hl, hA, -⟩ := lw_c ho
      unfold lawL at hE
      rw [if_pos ho] at hE
      simp only [lawL, if_pos ho] at hO
      refine ⟨fun _ => ?_, fun c => absurd c (by decide)⟩
      ((repeat' first | refine hP _ ?_ | fail); try dsimp only)
      refine ⟨fun c16 => ?_, fun c16 => ?_⟩
      rotate_left
      · have c16 : 16 ≤ k := Nat.le_of_not_lt (fun q => c16 (nI_lt (b := 16) q (by omega)))
        rw [if_pos c16] at hE
        ((repeat' first | refine hP _ ?_ | fail); try dsimp only)
        rw [rd1.1.2]
        refine m_fails rdr10 ?_
        ((repeat' first | refine hP _ ?_ | fail); try dsimp only)
        exact ⟨Or.inl rfl, hE (4, p) _ rfl (fun c a b e f g i => by rw [am_up_ne _ _ _ a]; exact fr1 c a b e f g i) (by rw [am_up_eq, if_pos ⟨rfl, rfl⟩]; rfl)⟩
      have c16 : k < 16 := (nI_ltI (b := 16) (by omega) (by omega)).mp c16
      rw [if_neg (by omega)] at hE
      simp only [if_neg (show ¬ 16 ≤ k by omega)] at hO
      have rd2 : rd (am_up u1 10 6 0) 10 T n p := rd_g rd1 (by rw [am_up_ne _ _ _ (by decide)]) (by rw [am_up_ne _ _ _ (by decide)]) (by rw [am_up_eq, if_neg (by decide)]) (by rw [am_up_eq, if_neg (by decide)]; exact rd1.1.2) hpn
      ((repeat' first | refine hP _ ?_ | fail); try dsimp only)
      refine m_isOn rdr10 rd2 am_idx_2647 (by decide) (by decide) ?_
      ((repeat' first | refine hP _ ?_ | fail); try dsimp only)
      refine m_takesC rdr10 rd2 am_idx_2537 (by decide) (by decide) (fun q => absurd (ho.symm.trans q) (by decide)) (fun _ _ => ?_)
      ((repeat' first | refine hP _ ?_ | fail); try dsimp only)
      rw [take_4]
      refine m_beginRule (k := k) (z := z) c16 (by rw [am_up_ne _ _ _ (by decide), am_up_ne _ _ _ (by decide), am_up_ne _ _ _ (by decide), h7]) (by rw [am_up_ne _ _ _ (by decide), am_up_ne _ _ _ (by decide), am_up_ne _ _ _ (by decide), h6]) ?_
      generalize hu4 : am_up (am_up (am_up (am_up (am_up (am_up (am_up u1 10 6 0) 10 4 (cc T n p)) 10 3 (nI (p + 1))) 13 k (cc T n p)) 14 k (nI z)) 15 k (nI z)) 11 7 (nI (k + 1)) = u4
      have q4 : lr_pre u4 T n (p + 1) 0 z := by
        subst hu4
        refine ⟨rd_g rd1 ?_ ?_ ?_ ?_ hlt, ⟨?_, ?_⟩, by omega, by omega⟩
        · rw [am_up_ne _ _ _ (by decide), am_up_ne _ _ _ (by decide), am_up_ne _ _ _ (by decide), am_up_ne _ _ _ (by decide), am_up_ne _ _ _ (by decide), am_up_ne _ _ _ (by decide), am_up_ne _ _ _ (by decide)]
        · rw [am_up_ne _ _ _ (by decide), am_up_ne _ _ _ (by decide), am_up_ne _ _ _ (by decide), am_up_ne _ _ _ (by decide), am_up_ne _ _ _ (by decide), am_up_ne _ _ _ (by decide), am_up_ne _ _ _ (by decide)]
        · simp [am_up_eq]
        · simp [am_up_eq]
        · simp [am_up_eq]
          rfl
        · simp [am_up_eq, h6]
      have f4 : lw_fr v0 u4 := by
        subst hu4
        intro c a b e f g i
        rw [am_up_ne _ _ _ b, am_up_ne _ _ _ i, am_up_ne _ _ _ g, am_up_ne _ _ _ f, am_up_ne _ _ _ a, am_up_ne _ _ _ a, am_up_ne _ _ _ a]
        exact fr1 c a b e f g i
      have e47 : u4 11 7 = nI (k + 1) := by
        subst hu4
        rw [am_up_eq, if_pos ⟨rfl, rfl⟩]
      have e412 : u4 12 = u1 12 := by
        subst hu4
        rw [am_up_ne _ _ _ (by decide), am_up_ne _ _ _ (by decide), am_up_ne _ _ _ (by decide), am_up_ne _ _ _ (by decide), am_up_ne _ _ _ (by decide), am_up_ne _ _ _ (by decide), am_up_ne _ _ _ (by decide)]
      have e413 : ∀ q, u4 13 q = if q = k then cc T n p else u1 13 q := by
        subst hu4
        intro q
        simp [am_up_eq]
      have e414 : ∀ q, u4 14 q = if q = k then nI z else u1 14 q := by
        subst hu4
        intro q
        simp [am_up_eq]
      have e415 : ∀ q, u4 15 q = if q = k then nI z else u1 15 q := by
        subst hu4
        intro q
        simp [am_up_eq]
      clear hu4
      -- behind the amount
      have tl : ∀ (p1 : Nat) (A : List lc_O) (u6 : am_V) (z1 : Nat), amF T n p = some (.ok (p1, A)) → cc T n p1 = 40 → lr_fr u4 u6 z → lr_pre u6 T n p1 0 z1 → z ≤ z1 → (lc_isA (lwN (cc T n p)) → lc_sC (u6 12) z1 z A) → P (cd_X4_readLine.drop 59, [some (.ref 10), some (.int (nI k)), some (.int (b2i (onl amL (cc T n p))))], [], (am_sh, u6, w), 0, 0) := by
        intro p1 A u6 z1 hA1 c40 f6 q6 hzz hAc
        have hpl := cc_p c40 (by decide)
        have hp1n := q6.1.2.2.1.2
        have hz1 := q6.2.2.1
        have ets : tsF T n 2000 p1 = lpr T n 2001 5 p1 0 := if_pos c40
        have hru : ∀ r, tsF T n 2000 p1 = some r → ruF T n p = (match r with
          | .error e => .error e
          | .ok (p2, B) => .ok (p2, (lwN (cc T n p), A, B))) := fun r hr => by
            unfold ruF
            rw [hA1]
            dsimp only
            rw [hr]
            cases r <;> rfl
        ((repeat' first | refine hP _ ?_ | fail); try dsimp only)
        refine m_beginTest (k := k) (z := z1) c16 (by rw [f6.2.2.1 7 (by decide), e47]) q6.2.1.2 ?_
        have q7 : lr_pre (am_up u6 15 k (nI z1)) T n p1 0 z1 := ⟨q6.1.o (by rw [am_up_ne _ _ _ (by decide)]) (by rw [am_up_ne _ _ _ (by decide)]) (by rw [am_up_ne _ _ _ (by decide)]), ⟨by rw [am_up_ne _ _ _ (by decide)]; exact q6.2.1.1, by rw [am_up_ne _ _ _ (by decide)]; exact q6.2.1.2⟩, q6.2.2⟩
        have f7 : lw_fr v0 (am_up u6 15 k (nI z1)) := fun c a b e f g i => by
          rw [am_up_ne _ _ _ i, f6.1 c a b e]
          exact f4 c a b e f g i
        ((repeat' first | refine hP _ ?_ | fail); try dsimp only)
        refine lr_group (K := K) (w := w) (f := 2000) c40 (fun _ => (lr_all 2000).2.2.2.2.2 (p1 + 1) 1 hpl (lp_tot 2000 8 (p1 + 1) 1 (by omega) hpl (by show 8 * (n - (p1 + 1)) + 6 ≤ 2000; omega))) (d + 24) z1 _ _ (by omega) q7 (fun e u8 he f8 h2 => ?_) (fun p2 B u8 he f8 q8 g8 => ?_)
        · rw [hru (.error e) (ets.trans he)] at hE
          ((repeat' first | refine hP _ ?_ | fail); try dsimp only)
          refine ⟨fun c => absurd rfl c, fun _ => ?_⟩
          ((repeat' first | refine hP _ ?_ | fail); try dsimp only)
          exact ⟨Or.inl rfl, hE e u8 rfl (fun c a b e f g i => by rw [f8.1 c a b e]; exact f7 c a b e f g i) h2⟩
        · have hts := ets.trans he
          have l2 := ts_ok hn hp1n hts
          obtain ⟨f9, q9, e9⟩ := lr_put q8 (show z1 + B.length < p2 by omega) (nI (0 * 256 + 59))
          ((repeat' first | refine hP _ ?_ | fail); try dsimp only)
          refine ⟨fun _ => ?_, fun c => absurd c (by decide)⟩
          ((repeat' first | refine hP _ ?_ | fail); try dsimp only)
          refine m_put (a := 0) (sg := 59) q8.2.1.2 (by omega) (by omega) (by omega) ?_
          generalize am_up (am_up u8 12 (z1 + B.length) (nI (0 * 256 + 59))) 11 6 (nI (z1 + B.length + 1)) = u9 at f9 q9 e9
          ((repeat' first | refine hP _ ?_ | fail); try dsimp only)
          refine ⟨Or.inr rfl, hO p2 (s ++ [(lwN (cc T n p), A, B)]) u9 ?_ ⟨q9.1, fun c a b e f g i => ?_, ⟨by simp; omega, by omega⟩, Or.inr ⟨?_, z1 + B.length + 1, q9.2.2.1, q9.2.1.2, ?_⟩⟩⟩
          · rw [hru (.ok (p2, B)) hts]
          · rw [f9.1 c a b e, f8.1 c a b e]
            exact f7 c a b e f g i
          · rw [f9.2.2.1 7 (by decide), f8.2.2.1 7 (by decide), am_up_ne _ _ _ (by decide), f6.2.2.1 7 (by decide), e47]
          · have c68 : ∀ i, i < z1 → u9 12 i = u6 12 i := fun i hi => by
              rw [f9.2.2.2 i (by omega), f8.2.2.2 i hi, am_up_ne _ _ _ (by decide)]
            have c13 : u9 13 = u4 13 := by rw [f9.1 13 (by decide) (by decide) (by decide), f8.1 13 (by decide) (by decide) (by decide), am_up_ne _ _ _ (by decide), f6.1 13 (by decide) (by decide) (by decide)]
            have c14 : u9 14 = u4 14 := by rw [f9.1 14 (by decide) (by decide) (by decide), f8.1 14 (by decide) (by decide) (by decide), am_up_ne _ _ _ (by decide), f6.1 14 (by decide) (by decide) (by decide)]
            have c15 : ∀ q, u9 15 q = if q = k then nI z1 else u1 15 q := fun q => by
              rw [f9.1 15 (by decide) (by decide) (by decide), f8.1 15 (by decide) (by decide) (by decide), am_up_eq]
              by_cases hq : q = k
              · rw [if_pos ⟨rfl, hq⟩, if_pos hq]
              · rw [if_neg (fun t => hq t.2), if_neg hq, f6.1 15 (by decide) (by decide) (by decide), e415 q, if_neg hq]
            refine lawC_app hlaw hsk (by omega) (fun i hi => ?_) (fun q hq => ⟨?_, ?_, ?_⟩) ?_ ⟨z, z1, ?_, ?_, ⟨by omega, fun i o hi => ?_, ?_⟩, fun t => sC_mono (hAc t) (by omega) c68⟩
            · rw [c68 i (by omega), f6.2.2.2 i hi, e412]
            · rw [c13, e413 q, if_neg (by omega)]
            · rw [c14, e414 q, if_neg (by omega)]
            · rw [c15 q, if_neg (by omega)]
            · rw [c13, e413 k, if_pos rfl]
              exact hcc
            · rw [c14, e414 k, if_pos rfl]
            · rw [c15 k, if_pos rfl]
            · have := lt_of_get hi
              rw [f9.2.2.2 _ (by omega)]
              exact g8 i o hi
            · rw [e9]
              rfl
      -- the group's sign
      have mid : ∀ (p1 : Nat) (A : List lc_O) (u5 : am_V), amF T n p = some (.ok (p1, A)) → lr_fr u4 u5 z → lr_pre u5 T n p1 0 (z + A.length) → cdC (u5 12) z A → P (cd_X4_readLine.drop 44, [some (.ref 10), some (.int (nI k)), some (.int (b2i (onl amL (cc T n p))))], [], (am_sh, u5, w), 0, 0) := by
        intro p1 A u5 hA1 f5 q5 g5
        have l1 := am_ok hn hlt hA1
        ((repeat' first | refine hP _ ?_ | fail); try dsimp only)
        refine m_isOn rdr10 q5.1 am_idx_2703 (by decide) (by decide) ?_
        ((repeat' first | refine hP _ ?_ | fail); try dsimp only)
        cases h4 : onl [40] (cc T n p1) with
        | false =>
          have c40 := on1n.mp h4
          have hru : ruF T n p = .error (1, p1) := by
            unfold ruF tsF
            rw [hA1]
            dsimp only
            rw [if_neg c40]
          rw [hru] at hE
          refine ⟨fun c => absurd rfl c, fun _ => ?_⟩
          ((repeat' first | refine hP _ ?_ | fail); try dsimp only)
          refine m_cannot rdr10 q5.1.1.2 ?_
          ((repeat' first | refine hP _ ?_ | fail); try dsimp only)
          exact ⟨Or.inl rfl, hE (1, p1) _ rfl (fun c a b e f g i => by rw [am_up_ne _ _ _ a, f5.1 c a b e]; exact f4 c a b e f g i) (by rw [am_up_eq, if_pos ⟨rfl, rfl⟩])⟩
        | true =>
          have c40 := on1.mp h4
          refine ⟨fun _ => ?_, fun c => absurd c (by decide)⟩
          ((repeat' first | refine hP _ ?_ | fail); try dsimp only)
          cases ha : onl amL (cc T n p) with
          | false =>
            have eA : A = [] := by
              unfold amF at hA1
              rw [if_neg (by rw [ha]; decide)] at hA1
              have : p + 1 = p1 ∧ [] = A := by simpa using hA1
              exact this.2.symm
            subst eA
            refine ⟨fun _ => ?_, fun c => absurd rfl c⟩
            rw [ha] at tl
            exact tl p1 [] u5 z hA1 c40 f5 q5 (Nat.le_refl _) (fun t => absurd (hA.mp t) (by rw [ha]; decide))
          | true =>
            refine ⟨fun c => absurd c (by decide), fun _ => ?_⟩
            obtain ⟨f6, q6, e6⟩ := lr_put q5 (show z + A.length < p1 by omega) (nI (0 * 256 + 59))
            have hp1 := q5.1.2.2.1.2
            ((repeat' first | refine hP _ ?_ | fail); try dsimp only)
            refine m_put (a := 0) (sg := 59) q5.2.1.2 (by omega) (by omega) (by omega) ?_
            ((iterate 1 refine hP _ ?_); try dsimp only)
            rw [ha] at tl
            refine tl p1 A _ (z + A.length + 1) hA1 c40 (f5.tr f6 (by omega)) q6 (by omega) (fun _ => ⟨by omega, fun i o hi => ?_, ?_⟩)
            · have := lt_of_get hi
              rw [f6.2.2.2 _ (by omega)]
              exact g5 i o hi
            · rw [e6]
              rfl
      ((repeat' first | refine hP _ ?_ | fail); try dsimp only)
      rw [show onl [102, 100, 117] (cc T n p) = onl amL (cc T n p) from rfl]
      cases ha : onl amL (cc T n p) with
      | false =>
        have hA1 : amF T n p = some (.ok (p + 1, [])) := by
          unfold amF
          rw [if_neg (by rw [ha]; decide)]
        rw [ha] at mid
        refine ⟨fun _ => ?_, fun c => absurd rfl c⟩
        exact mid (p + 1) [] u4 hA1 lr_fr.rf q4 cdC.nil
      | true =>
        have hA1 : amF T n p = lpr T n 2000 3 (p + 1) 0 := if_pos ha
        rw [ha] at mid
        refine ⟨fun c => absurd c (by decide), fun _ => ?_⟩
        ((repeat' first | refine hP _ ?_ | fail); try dsimp only)
        refine (lr_all (K := K) (w := w) 2000).2.2.1 (p + 1) 0 hlt (lp_tot 2000 3 (p + 1) 0 (by omega) hlt (by show 8 * (n - (p + 1)) + 3 ≤ 2000; omega)) (d + 24) z _ _ (by omega) q4 (fun e u5 he f5 h2 => ?_) (fun p1 A u5 he f5 q5 g5 => ?_)
        · have hru : ruF T n p = .error e := by
            unfold ruF
            rw [hA1.trans he]
          rw [hru] at hE
          ((repeat' first | refine hP _ ?_ | fail); try dsimp only)
          refine ⟨fun c => absurd rfl c, fun _ => ?_⟩
          ((repeat' first | refine hP _ ?_ | fail); try dsimp only)
          exact ⟨Or.inl rfl, hE e u5 rfl (fun c a b e f g i => by rw [f5.1 c a b e]; exact f4 c a b e f g i) h2⟩
        · ((repeat' first | refine hP _ ?_ | fail); try dsimp only)
          exact ⟨fun _ => mid p1 A u5 (hA1.trans he) f5 q5 g5, fun c => absurd c (by decide)⟩
  ((repeat' first | refine hP _ ?_ | fail); try dsimp only)
  rcases Nat.eq_zero_or_pos k with hk0 | hk0
  · subst hk0
    have es : s = [] := List.length_eq_zero_iff.mp hsk
    subst es
    refine ⟨fun c => absurd rfl c, fun _ => ?_⟩
    ((repeat' first | refine hP _ ?_ | fail); try dsimp only)
    refine m_clear11 ?_
    refine start _ 0 (rd_g hrd ?_ ?_ ?_ ?_ hpn) ?_ ?_ (by omega) ?_ (fun q l A B hq => absurd hq (by simp))
    · rw [am_up_ne _ _ _ (by decide), am_up_ne _ _ _ (by decide)]
    · rw [am_up_ne _ _ _ (by decide), am_up_ne _ _ _ (by decide)]
    · rw [am_up_ne _ _ _ (by decide), am_up_ne _ _ _ (by decide)]
    · rw [am_up_ne _ _ _ (by decide), am_up_ne _ _ _ (by decide)]
      exact hrd.1.2
    · intro c a b e f g i
      rw [am_up_ne _ _ _ b, am_up_ne _ _ _ b]
      exact hfr c a b e f g i
    · rw [am_up_eq, if_pos ⟨rfl, rfl⟩]
      rfl
    · rw [am_up_eq, if_neg (by decide), am_up_eq, if_pos ⟨rfl, rfl⟩]
      rfl
  · rcases hst with h0 | ⟨h7, z, hz, h6, hlaw⟩
    · omega
    · exact ⟨fun _ => start u z hrd hfr h7 hz h6 hlaw, fun c => absurd c (nI_ne0 (by omega) (by omega))⟩
