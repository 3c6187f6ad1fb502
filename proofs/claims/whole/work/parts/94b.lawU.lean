/-! ===== THE LAW read by the reference: conditions ===== -/
def rsx (v v' : am_V) : Prop := (∀ c, c ≠ 62 → c ≠ 67 → c ≠ 68 → v' c = v c) ∧ ∀ j, j ≠ 7 → j ≠ 9 → j ≠ 10 → j ≠ 11 → j ≠ 12 → j ≠ 13 → v' 62 j = v 62 j
theorem rsf.x {v v' : am_V} {z : Nat} (h : rsf v v' z) : rsx v v' := ⟨h.1, h.2.1⟩
theorem rsx.rf {v : am_V} : rsx v v := ⟨fun _ _ _ _ => rfl, fun _ _ _ _ _ _ _ => rfl⟩
theorem rsx.tr {v v1 v2 : am_V} (h1 : rsx v v1) (h2 : rsx v1 v2) : rsx v v2 := ⟨fun c a b d => by rw [h2.1 c a b d, h1.1 c a b d], fun j a b c d e g => by rw [h2.2 j a b c d e g, h1.2 j a b c d e g]⟩
theorem rsx.f {v v' : am_V} {z : Nat} (h : rsx v v') (h2 : ∀ i, i < z → v' 67 i = v 67 i) : rsf v v' z := ⟨h.1, h.2, h2⟩
def nots (k : Nat) : List (Nat × Nat) := List.replicate k (10, 0)
theorem nots_s (k : Nat) : nots (k + 1) = (10, 0) :: nots k := rfl
theorem nots_len (k : Nat) : (nots k).length = k := by simp [nots]
theorem nots_c (k : Nat) : nots k ++ [(10, 0)] = nots (k + 1) := by
  simp [nots, List.replicate_succ']
theorem wc_nots (k : Nat) (l : List (Nat × Nat)) : wc (nots k ++ l) = wc l + k := by
  induction k with
  | zero => rfl
  | succ k ih =>
    show wc (nots k ++ l) + 1 = _
    rw [ih]
    omega
/-- the top is a jump or an open one -/
def hdj (ws : List (Nat × Nat)) (a : Nat) : Prop := ∃ x l, ws = x :: l ∧ a ≤ x.1 ∧ x.1 ≤ 13
theorem hdj.m {ws : List (Nat × Nat)} {a b : Nat} (h : hdj ws a) (hb : b ≤ a) : hdj ws b := by
  obtain ⟨x, l, e, h1, h2⟩ := h
  exact ⟨x, l, e, by omega, h2⟩
section M94c
variable {K : am_K} {I : am_I} {d : Nat} {v : am_V} {w : am_X} {Q : Option Value → am_H → Prop} {T : Nat → Int32} {n p oo z : Nat} {ws : List (Nat × Nat)}
set_option maxRecDepth 100000 in
set_option maxHeartbeats 4000000 in
theorem m_notes0 {k a : Nat} (h12 : v 62 12 = nI z) (hz : z < 250) (hk : k < 15) (ha : a < 1048576) (hq : ∀ v', rsf v v' z → (∀ j, j ≠ 12 → v' 62 j = v 62 j) → v' 62 12 = nI (z + 1) → v' 68 = v 68 → v' 67 z = nI (k * 1048576 + a) → Q none (am_sh, v', w)) : am_run K I am_m (d + 1) 157 [.ref 62, .int (nI k), .int (nI a)] (am_sh, v, w) 0 0 Q := by
  refine en_X12_notes rfl ?_
  intro P hP
  ((repeat' first | refine hP _ ?_ | fail); try dsimp only)
  rw [h12, ws_mul]
  refine ⟨vp_in_nI (by omega) (by omega), ?_⟩
  dsimp only
  rw [nI_clamp (by omega)]
  ((repeat' first | refine hP _ ?_ | fail); try dsimp only)
  rw [am_up_ne _ _ _ (show (62 : Nat) ≠ 67 by decide), h12, nI_1]
  refine hq _ ⟨fun c a b _ => by rw [am_up_ne _ _ _ a, am_up_ne _ _ _ b], fun j _ _ _ _ e _ => by rw [am_up_eq, if_neg (fun q => e q.2), am_up_ne _ _ _ (by decide)], fun i hi => by rw [am_up_ne _ _ _ (by decide), am_up_eq, if_neg (fun q => by have := q.2; omega)]⟩ (fun j hj => ?_) ?_ ?_ ?_
  · rw [am_up_eq, if_neg (fun q => hj q.2), am_up_ne _ _ _ (by decide)]
  · rw [am_up_eq, if_pos ⟨rfl, rfl⟩]
  · rw [am_up_ne _ _ _ (by decide), am_up_ne _ _ _ (by decide)]
  · rw [am_up_ne _ _ _ (by decide), am_up_eq, if_pos ⟨rfl, rfl⟩]
set_option maxRecDepth 100000 in
set_option maxHeartbeats 4000000 in
theorem m_ends {rest : List (Nat × Nat)} (hr : hdj rest 11) : ∀ (k o0 z : Nat) (v : am_V) (Q : Option Value → am_H → Prop), rs_pre v T n p (o0 + k) z (nots k ++ rest) → (∀ v', rsf v v' z → rs_pre v' T n p o0 (z + k) rest → cdR (v' 67) z (nots k) → Q none (am_sh, v', w)) → am_run K I am_m (d + 2) 166 [.ref 62] (am_sh, v, w) 0 0 Q := by
  intro k o0 z v Q h hq
  refine en_X12_endsPiece rfl ?_
  intro P hP
  have key : ∀ (k z : Nat) (v : am_V), rs_pre v T n p (o0 + k) z (nots k ++ rest) → (∀ v', rsf v v' z → rs_pre v' T n p o0 (z + k) rest → cdR (v' 67) z (nots k) → Q none (am_sh, v', w)) → P (cd_X12_endsPiece.drop 0, [some (.ref 62)], [], (am_sh, v, w), 0, 0) := by
    intro k
    induction k with
    | zero =>
      intro z v h hq
      obtain ⟨x, l, rfl, h1, h2⟩ := hr
      ((repeat' first | refine hP _ ?_ | fail); try dsimp only)
      refine m_waitTop h ?_
      ((repeat' first | refine hP _ ?_ | fail); try dsimp only)
      refine ⟨fun _ => ?_, fun c => absurd ((nI_eq (a := x.1) (b := 10) (by omega) (by omega)).mp c) (by omega)⟩
      ((repeat' first | refine hP _ ?_ | fail); try dsimp only)
      exact hq v rsf.rf h cdR.nil
    | succ k ih =>
      intro z v h hq
      have hn := h.1.2.2.1
      have hpn := h.1.2.2.2
      have hb := h.2.2.2.1
      rw [nots_s] at h hb
      have hwc : wc ((10, 0) :: nots k ++ rest) = wc (nots k ++ rest) + 1 := rfl
      rw [hwc, List.cons_append, List.length_cons] at hb
      ((repeat' first | refine hP _ ?_ | fail); try dsimp only)
      refine m_waitTop h ?_
      ((repeat' first | refine hP _ ?_ | fail); try dsimp only)
      refine ⟨fun c => absurd rfl c, fun _ => ?_⟩
      ((repeat' first | refine hP _ ?_ | fail); try dsimp only)
      show am_run K I am_m (d + 1) 157 [.ref 62, .int (nI 10), .int (nI 0)] _ _ _ _
      refine m_notes h (by omega) (by omega) (by omega) (fun v1 f1 g1 g12 g68 g67 => ?_)
      ((iterate 13 refine hP _ ?_); try dsimp only)
      rw [am_up_eq, if_neg (by decide), g1 13 (by decide), h.2.1.2.2, List.cons_append, List.length_cons, nI_pred, g1 11 (by decide), h.2.1.1, ← Nat.add_assoc, nI_pred]
      refine ih (z + 1) _ ⟨h.1.u ?_ ?_ ?_ hpn, ⟨?_, ?_, ?_⟩, ?_, ⟨?_, ?_, by omega⟩, fun y hy => h.2.2.2.2 y (List.mem_cons_of_mem _ hy)⟩ (fun v2 f2 p2 c2 => ?_)
      · rw [am_up_ne _ _ _ (by decide), am_up_ne _ _ _ (by decide), f1.1 66 (by decide) (by decide) (by decide)]
      · rw [am_up_eq, if_neg (by decide), am_up_eq, if_neg (by decide), g1 7 (by decide)]
        exact h.1.1.1
      · rw [am_up_eq, if_neg (by decide), am_up_eq, if_neg (by decide), g1 8 (by decide)]
      · rw [am_up_eq, if_pos ⟨rfl, rfl⟩]
      · rw [am_up_eq, if_neg (by decide), am_up_eq, if_neg (by decide), g12]
      · rw [am_up_eq, if_neg (by decide), am_up_eq, if_pos ⟨rfl, rfl⟩]
      · rw [am_up_ne _ _ _ (by decide), am_up_ne _ _ _ (by decide), g68]
        exact h.2.2.1.2
      · omega
      · omega
      · refine hq v2 (((f1.u62 (by omega) _).u62 (by omega) _).tr f2 (by omega)) ?_ (cdR.app (c1 := [(10, 0)]) (cdR.one ?_) c2)
        · rw [show z + (k + 1) = z + 1 + k by omega]
          exact p2
        · rw [f2.2.2 z (by omega), am_up_ne _ _ _ (by decide), am_up_ne _ _ _ (by decide), g67]
          rfl
  exact key k z v h hq
theorem len3 (a b : List lc_O) (x : lc_O) : (a ++ (b ++ [x])).length = a.length + b.length + 1 := by
  simp
  omega
/-- two sums and the sign between -/
def cmF (T : Nat → Int32) (n F p o : Nat) : lp_R := lpb (lpr T n F 3 p o) (fun p1 c1 => if onl cmL (cc T n p1) = true then lpb (lpr T n F 3 (p1 + 1) o) (fun p2 c2 => some (.ok (p2, c1 ++ (c2 ++ [(sgK (cc T n p1), 0)])))) else some (.error (1, p1)))
set_option maxRecDepth 100000 in
set_option maxHeartbeats 4000000 in
theorem m_cmp {F o0 k : Nat} {rest : List (Nat × Nat)} (hr : hdj rest 11) (hs : ∃ r, cmF T n F p (o0 + k) = some r) (hpre : rs_pre v T n p (o0 + k) z (nots k ++ rest)) (hE : ∀ e v', cmF T n F p (o0 + k) = some (.error e) → rsx v v' → v' 62 9 = flt e → Q (some (.int 0)) (am_sh, v', w)) (hO : ∀ p1 c v', cmF T n F p (o0 + k) = some (.ok (p1, c)) → rsf v v' z → rs_pre v' T n p1 o0 (z + c.length + k) rest → cdR (v' 67) z (c ++ nots k) → Q (some (.int 1)) (am_sh, v', w)) : am_run K I am_m (d + 7) 169 [.ref 62] (am_sh, v, w) 0 0 Q := by
  have hn := hpre.1.2.2.1
  have hpn := hpre.1.2.2.2
  have hb := hpre.2.2.2.1
  have hno : nosu (nots k ++ rest) := by
    obtain ⟨y, l', rfl, h1, h2⟩ := hr
    intro x l e
    cases k with
    | zero =>
      have : y = x := (List.cons.inj e).1
      rw [← this]
      omega
    | succ k =>
      have : (10, 0) = x := (List.cons.inj e).1
      rw [← this]
      show ¬ (2 ≤ 10 ∧ 10 ≤ 6)
      omega
  unfold cmF at hs hE hO
  have hs1 := lp_sub hs
  refine en_X12_readsCompared rfl ?_
  intro P hP
  ((repeat' first | refine hP _ ?_ | fail); try dsimp only)
  refine m_readsSum hs1 hno hpre (fun e v' he f' h9 => ?_) (fun p1 c1 v1 he f1 q1 g1 => ?_)
  · rw [he] at hE
    ((repeat' first | refine hP _ ?_ | fail); try dsimp only)
    refine ⟨fun c => absurd rfl c, fun _ => ?_⟩
    ((repeat' first | refine hP _ ?_ | fail); try dsimp only)
    exact ⟨Or.inl rfl, hE e v' rfl f'.x h9⟩
  · rw [he] at hE hO hs
    have l1 := lp_len F 3 p (o0 + k) p1 c1 hpn he
    ((repeat' first | refine hP _ ?_ | fail); try dsimp only)
    refine ⟨fun _ => ?_, fun c => absurd c (by decide)⟩
    cases hc : onl cmL (cc T n p1) with
    | false =>
      have hE := hE (1, p1)
      unfold lpb at hE
      dsimp only at hE
      rw [if_neg (by rw [hc]; decide)] at hE
      have hc := onl_no.mp hc
      simp [cmL] at hc
      ((repeat' first | refine hP _ ?_ | fail); try dsimp only)
      refine m_here q1.1 ?_
      ((repeat' first | refine hP _ ?_ | fail); try dsimp only)
      refine ⟨fun _ => ?_, fun c => absurd c hc.1⟩
      ((repeat' first | refine hP _ ?_ | fail); try dsimp only)
      refine m_here q1.1 ?_
      ((repeat' first | refine hP _ ?_ | fail); try dsimp only)
      refine ⟨fun _ => ?_, fun c => absurd c hc.2.1⟩
      ((repeat' first | refine hP _ ?_ | fail); try dsimp only)
      refine m_here q1.1 ?_
      ((repeat' first | refine hP _ ?_ | fail); try dsimp only)
      refine ⟨fun _ => ?_, fun c => absurd c hc.2.2⟩
      ((repeat' first | refine hP _ ?_ | fail); try dsimp only)
      refine ⟨fun c => absurd rfl c, fun _ => ?_⟩
      ((repeat' first | refine hP _ ?_ | fail); try dsimp only)
      rw [q1.1.1.1]
      refine m_wrongAt ?_
      ((repeat' first | refine hP _ ?_ | fail); try dsimp only)
      exact ⟨Or.inl rfl, hE _ rfl (f1.u62 (by omega) _).x (by rw [am_up_eq, if_pos ⟨rfl, rfl⟩]; rfl)⟩
    | true =>
      have hkk := cm_k hc
      have hlt := onl_lt cm_m1 hc
      have hE := fun e => hE e
      unfold lpb at hE hO hs
      dsimp only at hE hO hs
      simp only [if_pos hc] at hE hO hs
      have hs2 := lp_sub hs
      have go : P (cd_X12_readsCompared.drop 24, [some (.ref 62), none], [.int (nI (sgK (cc T n p1)))], (am_sh, v1, w), 0, 0) := by
        ((repeat' first | refine hP _ ?_ | fail); try dsimp only)
        refine ⟨fun _ => ?_, fun c => absurd c (nI_nm1 (by omega)).1⟩
        ((repeat' first | refine hP _ ?_ | fail); try dsimp only)
        rw [q1.1.1.1, nI_1]
        have q2 : rs_pre (am_up v1 62 7 (nI (p1 + 1))) T n (p1 + 1) (o0 + k) (z + c1.length) (nots k ++ rest) := by
          have b1 := q1.2.2.2.1
          refine ⟨q1.1.u ?_ ?_ ?_ hlt, ⟨?_, ?_, ?_⟩, ?_, ⟨by omega, by omega, b1.2.2⟩, q1.2.2.2.2⟩
          · rw [am_up_ne _ _ _ (by decide)]
          · rw [am_up_eq, if_pos ⟨rfl, rfl⟩]
          · rw [am_up_eq, if_neg (by decide)]
          · rw [am_up_eq, if_neg (by decide)]
            exact q1.2.1.1
          · rw [am_up_eq, if_neg (by decide)]
            exact q1.2.1.2.1
          · rw [am_up_eq, if_neg (by decide)]
            exact q1.2.1.2.2
          · rw [am_up_ne _ _ _ (by decide)]
            exact q1.2.2.1
        have f2 : rsf v (am_up v1 62 7 (nI (p1 + 1))) z := f1.u62 (by omega) _
        refine m_readsSum hs2 hno q2 (fun e v' he' f' h9 => ?_) (fun p2 c2 v3 he' f3 q3 g3 => ?_)
        · rw [he'] at hE
          ((repeat' first | refine hP _ ?_ | fail); try dsimp only)
          refine ⟨fun c => absurd rfl c, fun _ => ?_⟩
          ((repeat' first | refine hP _ ?_ | fail); try dsimp only)
          exact ⟨Or.inl rfl, hE e v' rfl (f2.x.tr f'.x) h9⟩
        · rw [he'] at hO
          have l2 := lp_len F 3 (p1 + 1) (o0 + k) p2 c2 hlt he'
          have hp2 := q3.1.2.2.2
          ((repeat' first | refine hP _ ?_ | fail); try dsimp only)
          refine ⟨fun _ => ?_, fun c => absurd c (by decide)⟩
          ((repeat' first | refine hP _ ?_ | fail); try dsimp only)
          show am_run K I am_m (d + 6) 157 [.ref 62, .int (nI (sgK (cc T n p1))), .int (nI 0)] _ _ _ _
          refine m_notes q3 (by omega) (by omega) (by omega) (fun v4 f4 g4 g12 g68 g67 => ?_)
          have q4 : rs_pre v4 T n p2 (o0 + k) (z + c1.length + c2.length + 1) (nots k ++ rest) := by
            refine ⟨q3.1.u ?_ ?_ ?_ hp2, ⟨?_, g12, ?_⟩, ?_, ⟨by omega, by omega, hb.2.2⟩, q3.2.2.2.2⟩
            · exact f4.1 66 (by decide) (by decide) (by decide)
            · rw [g4 7 (by decide)]
              exact q3.1.1.1
            · exact g4 8 (by decide)
            · rw [g4 11 (by decide)]
              exact q3.2.1.1
            · rw [g4 13 (by decide)]
              exact q3.2.1.2.2
            · rw [g68]
              exact q3.2.2.1
          have f24 : rsf v v4 z := (f2.tr f3 (by omega)).tr f4 (by omega)
          ((repeat' first | refine hP _ ?_ | fail); try dsimp only)
          refine m_ends hr k o0 _ v4 _ q4 (fun v5 f5 q5 g5 => ?_)
          ((repeat' first | refine hP _ ?_ | fail); try dsimp only)
          refine ⟨Or.inr rfl, hO p2 _ v5 rfl (f24.tr f5 (by omega)) ?_ ?_⟩
          · rw [len3, show z + (c1.length + c2.length + 1) + k = z + c1.length + c2.length + 1 + k by omega]
            exact q5
          · refine cdR.app (cdR.app (g1.of (fun i _ hi => ?_)) (cdR.app (g3.of (fun i _ hi => ?_)) (cdR.one ?_))) ?_
            · rw [f5.2.2 i (by omega), f4.2.2 i (by omega), f3.2.2 i (by omega), am_up_ne _ _ _ (by decide)]
            · rw [f5.2.2 i (by omega), f4.2.2 i (by omega)]
            · rw [f5.2.2 _ (by omega), g67]
              unfold lc_R lc_tg
              dsimp only
              rw [if_neg (by omega)]
            · rw [len3, show z + (c1.length + c2.length + 1) = z + c1.length + c2.length + 1 by omega]
              exact g5
      have hc2 := onl_iff.mp hc
      simp [cmL] at hc2
      ((repeat' first | refine hP _ ?_ | fail); try dsimp only)
      refine m_here q1.1 ?_
      ((repeat' first | refine hP _ ?_ | fail); try dsimp only)
      refine ⟨fun c1 => ?_, fun c1 => ?_⟩
      rotate_left
      · rw [show sgK (cc T n p1) = 7 by rw [c1]; rfl] at go
        ((iterate 2 refine hP _ ?_); try dsimp only)
        exact go
      ((repeat' first | refine hP _ ?_ | fail); try dsimp only)
      refine m_here q1.1 ?_
      ((repeat' first | refine hP _ ?_ | fail); try dsimp only)
      refine ⟨fun c2 => ?_, fun c2 => ?_⟩
      rotate_left
      · rw [show sgK (cc T n p1) = 8 by rw [c2]; rfl] at go
        ((iterate 2 refine hP _ ?_); try dsimp only)
        exact go
      ((repeat' first | refine hP _ ?_ | fail); try dsimp only)
      refine m_here q1.1 ?_
      ((repeat' first | refine hP _ ?_ | fail); try dsimp only)
      refine ⟨fun c3 => ?_, fun c3 => ?_⟩
      rotate_left
      · rw [show sgK (cc T n p1) = 9 by rw [c3]; rfl] at go
        ((iterate 2 refine hP _ ?_); try dsimp only)
        exact go
      · exfalso
        rcases hc2 with h | h | h
        · exact c1 h
        · exact c2 h
        · exact c3 h
end M94c
