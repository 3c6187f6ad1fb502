/-! ===== THE LAW read by the reference: sums ===== -/
def wsI (x : Nat × Nat) : Int32 := nI (x.1 * 1048576 + x.2)
/-- how many wait that are no & and no | -/
def wc : List (Nat × Nat) → Nat
  | [] => 0
  | x :: l => wc l + (if x.1 = 11 ∨ x.1 = 12 then 0 else 1)
theorem wc_app : ∀ (a b : List (Nat × Nat)), wc (a ++ b) = wc a + wc b
  | [], b => by simp [wc]
  | x :: a, b => by
    show wc (a ++ b) + _ = wc a + _ + wc b
    rw [wc_app a b]
    omega
def ws_ok (ws : List (Nat × Nat)) : Prop := ∀ x, x ∈ ws → x.1 < 15 ∧ x.2 < 1000
def rs_pre (v : am_V) (T : Nat → Int32) (n p oo z : Nat) (ws : List (Nat × Nat)) : Prop := rdR v T n p ∧ (v 62 11 = nI oo ∧ v 62 12 = nI z ∧ v 62 13 = nI ws.length) ∧ stk (v 68) (ws.map wsI) ∧ (z + wc ws ≤ p ∧ ws.length ≤ p ∧ oo ≤ 6) ∧ ws_ok ws
def rsf (v v' : am_V) (z : Nat) : Prop := (∀ c, c ≠ 62 → c ≠ 67 → c ≠ 68 → v' c = v c) ∧ (∀ j, j ≠ 7 → j ≠ 9 → j ≠ 10 → j ≠ 11 → j ≠ 12 → j ≠ 13 → v' 62 j = v 62 j) ∧ ∀ i, i < z → v' 67 i = v 67 i
def cdR (f : Nat → Int32) (z : Nat) (c : List lc_O) : Prop := ∀ i x, c[i]? = some x → f (z + i) = lc_R (z + i) x
theorem rsf.rf {v : am_V} {z : Nat} : rsf v v z := ⟨fun _ _ _ _ => rfl, fun _ _ _ _ _ _ _ => rfl, fun _ _ => rfl⟩
theorem rsf.tr {v v1 v2 : am_V} {z z' : Nat} (h1 : rsf v v1 z) (h2 : rsf v1 v2 z') (hz : z ≤ z') : rsf v v2 z := ⟨fun c a b d => by rw [h2.1 c a b d, h1.1 c a b d], fun j a b c d e g => by rw [h2.2.1 j a b c d e g, h1.2.1 j a b c d e g], fun i hi => by rw [h2.2.2 i (by omega), h1.2.2 i hi]⟩
theorem rsf.u62 {v v1 : am_V} {z : Nat} (h1 : rsf v v1 z) {j : Nat} (hj : j = 7 ∨ j = 9 ∨ j = 10 ∨ j = 11 ∨ j = 12 ∨ j = 13) (x : Int32) : rsf v (am_up v1 62 j x) z := ⟨fun c a b d => by rw [am_up_ne _ _ _ a, h1.1 c a b d], fun i a b c d e g => by rw [am_up_eq, if_neg (fun q => by have := q.2; omega), h1.2.1 i a b c d e g], fun i hi => by rw [am_up_ne _ _ _ (by decide), h1.2.2 i hi]⟩
theorem rsf.u68 {v v1 : am_V} {z : Nat} (h1 : rsf v v1 z) (j : Nat) (x : Int32) : rsf v (am_up v1 68 j x) z := ⟨fun c a b d => by rw [am_up_ne _ _ _ d, h1.1 c a b d], fun i a b c d e g => by rw [am_up_ne _ _ _ (by decide), h1.2.1 i a b c d e g], fun i hi => by rw [am_up_ne _ _ _ (by decide), h1.2.2 i hi]⟩
theorem cdR.nil {f : Nat → Int32} {z : Nat} : cdR f z [] := fun i x h => absurd h (by simp)
theorem cdR.app {f : Nat → Int32} {z : Nat} {c1 c2 : List lc_O} (h1 : cdR f z c1) (h2 : cdR f (z + c1.length) c2) : cdR f z (c1 ++ c2) := by
  intro i x h
  rcases Nat.lt_or_ge i c1.length with q | q
  · rw [List.getElem?_append_left q] at h
    exact h1 i x h
  · rw [List.getElem?_append_right q] at h
    have := h2 (i - c1.length) x h
    rw [show z + c1.length + (i - c1.length) = z + i by omega] at this
    exact this
theorem cdR.of {f f' : Nat → Int32} {z : Nat} {c : List lc_O} (h : cdR f z c) (he : ∀ i, z ≤ i → i < z + c.length → f' i = f i) : cdR f' z c := by
  intro i x hi
  have := lt_of_get hi
  rw [he (z + i) (by omega) (by omega)]
  exact h i x hi
theorem cdR.one {f : Nat → Int32} {z : Nat} {x : lc_O} (h : f z = lc_R z x) : cdR f z [x] := by
  intro i y hi
  have := lt_of_get hi
  have hi0 : i = 0 := by
    simp at this
    exact this
  subst hi0
  have : x = y := by simpa using hi
  rw [← this]
  exact h
theorem ws_div {k a : Nat} (hk : k < 15) (ha : a < 1048576) : nI (k * 1048576 + a) / 1048576 = nI k := by
  rw [show (1048576 : Int32) = nI 1048576 from rfl, pk_div (by omega) (by omega) (by omega)]
  congr 1
  omega
theorem ws_mul {k a : Nat} : 1048576 * nI k + nI a = nI (k * 1048576 + a) := by
  rw [show (1048576 : Int32) = nI 1048576 from rfl, pk_mul, nI_add, Nat.mul_comm]
theorem ws_mul0 {k : Nat} : 1048576 * nI k = nI (k * 1048576 + 0) := by
  rw [show (1048576 : Int32) = nI 1048576 from rfl, pk_mul, Nat.mul_comm, Nat.add_zero]
def wtop (ws : List (Nat × Nat)) : Int32 := match ws with
  | [] => -1
  | x :: _ => nI x.1
theorem rdR.u {v v' : am_V} {T : Nat → Int32} {n p p' : Nat} (h : rdR v T n p) (h66 : v' 66 = v 66) (h7 : v' 62 7 = nI p') (h8 : v' 62 8 = v 62 8) (hp : p' ≤ n) : rdR v' T n p' := ⟨⟨h7, by rw [h8]; exact h.1.2⟩, by rw [h66]; exact h.2.1, h.2.2.1, hp⟩
section M92
variable {K : am_K} {I : am_I} {d : Nat} {v : am_V} {w : am_X} {Q : Option Value → am_H → Prop} {T : Nat → Int32} {n p oo z : Nat} {ws : List (Nat × Nat)}
set_option maxRecDepth 100000 in
set_option maxHeartbeats 4000000 in
theorem m_notes {k a : Nat} (h : rs_pre v T n p oo z ws) (hz : z < 250) (hk : k < 15) (ha : a < 1048576) (hq : ∀ v', rsf v v' z → (∀ j, j ≠ 12 → v' 62 j = v 62 j) → v' 62 12 = nI (z + 1) → v' 68 = v 68 → v' 67 z = nI (k * 1048576 + a) → Q none (am_sh, v', w)) : am_run K I am_m (d + 1) 157 [.ref 62, .int (nI k), .int (nI a)] (am_sh, v, w) 0 0 Q := by
  refine en_X12_notes rfl ?_
  intro P hP
  ((repeat' first | refine hP _ ?_ | fail); try dsimp only)
  rw [h.2.1.2.1, ws_mul]
  refine ⟨vp_in_nI (by omega) (by omega), ?_⟩
  dsimp only
  rw [nI_clamp (by omega)]
  ((repeat' first | refine hP _ ?_ | fail); try dsimp only)
  rw [am_up_ne _ _ _ (show (62 : Nat) ≠ 67 by decide), h.2.1.2.1, nI_1]
  refine hq _ ⟨fun c a b _ => by rw [am_up_ne _ _ _ a, am_up_ne _ _ _ b], fun j _ _ _ _ e _ => by rw [am_up_eq, if_neg (fun q => e q.2), am_up_ne _ _ _ (by decide)], fun i hi => by rw [am_up_ne _ _ _ (by decide), am_up_eq, if_neg (fun q => by have := q.2; omega)]⟩ (fun j hj => ?_) ?_ ?_ ?_
  · rw [am_up_eq, if_neg (fun q => hj q.2), am_up_ne _ _ _ (by decide)]
  · rw [am_up_eq, if_pos ⟨rfl, rfl⟩]
  · rw [am_up_ne _ _ _ (by decide), am_up_ne _ _ _ (by decide)]
  · rw [am_up_ne _ _ _ (by decide), am_up_eq, if_pos ⟨rfl, rfl⟩]
set_option maxRecDepth 100000 in
set_option maxHeartbeats 4000000 in
theorem m_waitTop (h : rs_pre v T n p oo z ws) (hq : Q (some (.int (wtop ws))) (am_sh, v, w)) : am_run K I am_m (d + 1) 159 [.ref 62] (am_sh, v, w) 0 0 Q := by
  have hn := h.1.2.2.1
  have hp := h.1.2.2.2
  have hl := h.2.2.2.1.2.1
  refine en_X12_waitTop rfl ?_
  intro P hP
  ((repeat' first | refine hP _ ?_ | fail); try dsimp only)
  rw [h.2.1.2.2]
  cases ws with
  | nil =>
    refine ⟨fun c => absurd rfl c, fun _ => ?_⟩
    ((repeat' first | refine hP _ ?_ | fail); try dsimp only)
    exact hq
  | cons x ws =>
    obtain ⟨hx1, hx2⟩ := h.2.2.2.2 x List.mem_cons_self
    rw [List.length_cons] at hl ⊢
    refine ⟨fun _ => ?_, fun c => absurd c (nI_ne0 (by omega) (by omega))⟩
    ((repeat' first | refine hP _ ?_ | fail); try dsimp only)
    rw [h.2.1.2.2, List.length_cons, nI_pred]
    refine ⟨vp_in_nI (by omega) (by omega), ?_⟩
    ((repeat' first | refine hP _ ?_ | fail); try dsimp only)
    refine ⟨by decide, ?_⟩
    have e : v 68 ws.length = wsI x := by
      have := h.2.2.1.1
      rw [List.length_map] at this
      exact this
    ((repeat' first | refine hP _ ?_ | fail); try dsimp only)
    rw [nI_clamp (by omega), e]
    unfold wsI
    rw [ws_div hx1 (by omega)]
    exact hq
set_option maxRecDepth 100000 in
set_option maxHeartbeats 4000000 in
theorem m_opensR {k : Nat} (h : rs_pre v T n p oo z ws) (hk : k < 15) (hk2 : ¬ (k = 11 ∨ k = 12)) (hp : p < n) (h5 : oo = 6 → ∀ v', rsf v v' z → v' 62 9 = flt (5, p) → Q (some (.int 0)) (am_sh, v', w)) (h1 : oo < 6 → ∀ v', rsf v v' z → rs_pre v' T n (p + 1) (oo + 1) z ((k, 0) :: ws) → v' 67 = v 67 → Q (some (.int 1)) (am_sh, v', w)) : am_run K I am_m (d + 2) 158 [.ref 62, .int (nI k)] (am_sh, v, w) 0 0 Q := by
  obtain ⟨hr, ⟨e11, e12, e13⟩, hst, ⟨hz, hl, ho⟩, hok⟩ := h
  have hn := hr.2.2.1
  refine en_X12_opens rfl ?_
  intro P hP
  ((repeat' first | refine hP _ ?_ | fail); try dsimp only)
  rw [e11]
  refine ⟨fun c => ?_, fun c => ?_⟩
  · have c : oo < 6 := by
      rcases Nat.lt_or_ge oo 6 with q | q
      · exact q
      · exact absurd (by rw [show oo = 6 by omega]; rfl) c
    ((repeat' first | refine hP _ ?_ | fail); try dsimp only)
    rw [e11, nI_1, am_up_eq, if_neg (by decide), e13, ws_mul0]
    refine ⟨vp_in_nI (by omega) (by omega), ?_⟩
    dsimp only
    rw [nI_clamp (by omega)]
    ((repeat' first | refine hP _ ?_ | fail); try dsimp only)
    rw [am_up_ne _ _ _ (show (62 : Nat) ≠ 68 by decide), am_up_eq, if_neg (by decide), e13, nI_1, am_up_eq, if_neg (by decide), am_up_ne _ _ _ (show (62 : Nat) ≠ 68 by decide), am_up_eq, if_neg (by decide), hr.1.1, nI_1]
    refine ⟨Or.inr rfl, h1 c _ ((((rsf.rf.u62 (by omega) _).u68 _ _).u62 (by omega) _).u62 (by omega) _) ⟨hr.u ?_ ?_ ?_ hp, ⟨?_, ?_, ?_⟩, ?_, ⟨?_, ?_, by omega⟩, ?_⟩ ?_⟩
    · rw [am_up_ne _ _ _ (by decide), am_up_ne _ _ _ (by decide), am_up_ne _ _ _ (by decide), am_up_ne _ _ _ (by decide)]
    · rw [am_up_eq, if_pos ⟨rfl, rfl⟩]
    · rw [am_up_eq, if_neg (by decide), am_up_eq, if_neg (by decide), am_up_ne _ _ _ (by decide), am_up_eq, if_neg (by decide)]
    · rw [am_up_eq, if_neg (by decide), am_up_eq, if_neg (by decide), am_up_ne _ _ _ (by decide), am_up_eq, if_pos ⟨rfl, rfl⟩]
    · rw [am_up_eq, if_neg (by decide), am_up_eq, if_neg (by decide), am_up_ne _ _ _ (by decide), am_up_eq, if_neg (by decide), e12]
    · rw [am_up_eq, if_neg (by decide), am_up_eq, if_pos ⟨rfl, rfl⟩]
      rfl
    · rw [am_up_ne _ _ _ (show (68 : Nat) ≠ 62 by decide), am_up_ne _ _ _ (show (68 : Nat) ≠ 62 by decide)]
      have := stk_push (u := am_up v 62 11 (nI (oo + 1))) (k := 68) (x := wsI (k, 0)) (s := ws.map wsI) (by rw [am_up_ne _ _ _ (by decide)]; exact hst)
      rw [List.length_map] at this
      exact this
    · show z + (wc ws + _) ≤ p + 1
      split <;> omega
    · rw [List.length_cons]
      omega
    · intro x hx
      rcases List.mem_cons.mp hx with q | q
      · subst q
        exact ⟨hk, by show 0 < 1000; decide⟩
      · exact hok x q
    · rw [am_up_ne _ _ _ (by decide), am_up_ne _ _ _ (by decide), am_up_ne _ _ _ (by decide), am_up_ne _ _ _ (by decide)]
  · have c : oo = 6 := (nI_eq (b := 6) (by omega) (by omega)).mp c
    ((repeat' first | refine hP _ ?_ | fail); try dsimp only)
    rw [hr.1.1]
    refine m_wrongAt ?_
    ((repeat' first | refine hP _ ?_ | fail); try dsimp only)
    exact ⟨Or.inl rfl, h5 c _ (rsf.rf.u62 (by omega) _) (by rw [am_up_eq, if_pos ⟨rfl, rfl⟩]; rfl)⟩
/-- what is closed: the signs that go out, what stays -/
def clP (all : Bool) : List (Nat × Nat) → List lc_O × List (Nat × Nat)
  | [] => ([], [])
  | x :: l => if (4 ≤ x.1 ∧ x.1 ≤ 6) ∨ (all = true ∧ (x.1 = 2 ∨ x.1 = 3)) then ((x.1, 0) :: (clP all l).1, (clP all l).2) else ([], x :: l)
set_option maxRecDepth 100000 in
set_option maxHeartbeats 4000000 in
theorem m_closes {all : Bool} : ∀ (ws : List (Nat × Nat)) (z : Nat) (v : am_V) (Q : Option Value → am_H → Prop), rs_pre v T n p oo z ws → (∀ v', rsf v v' z → rs_pre v' T n p oo (z + (clP all ws).1.length) (clP all ws).2 → cdR (v' 67) z (clP all ws).1 → (∀ j, j ≠ 12 → j ≠ 13 → v' 62 j = v 62 j) → Q none (am_sh, v', w)) → am_run K I am_m (d + 2) 162 [.ref 62, .int (b2i all)] (am_sh, v, w) 0 0 Q := by
  intro ws z v Q h hq
  refine en_X12_closesSums rfl ?_
  intro P hP
  have key : ∀ (ws : List (Nat × Nat)) (z : Nat) (v : am_V), rs_pre v T n p oo z ws → (∀ v', rsf v v' z → rs_pre v' T n p oo (z + (clP all ws).1.length) (clP all ws).2 → cdR (v' 67) z (clP all ws).1 → (∀ j, j ≠ 12 → j ≠ 13 → v' 62 j = v 62 j) → Q none (am_sh, v', w)) → P (cd_X12_closesSums.drop 0, [some (.ref 62), some (.int (b2i all))], [], (am_sh, v, w), 0, 0) := by
    intro ws
    induction ws with
    | nil =>
      intro z v h hq
      have hq0 : Q none (am_sh, v, w) := hq v rsf.rf h cdR.nil (fun _ _ _ => rfl)
      ((repeat' first | refine hP _ ?_ | fail); try dsimp only)
      refine m_waitTop h ?_
      ((repeat' first | refine hP _ ?_ | fail); try dsimp only)
      refine ⟨fun _ => ?_, fun c => absurd (by decide) c⟩
      ((repeat' first | refine hP _ ?_ | fail); try dsimp only)
      cases all with
      | false =>
        refine ⟨fun _ => ?_, fun c => absurd rfl c⟩
        ((repeat' first | refine hP _ ?_ | fail); try dsimp only)
        exact hq0
      | true =>
        refine ⟨fun c => absurd c (by decide), fun _ => ?_⟩
        ((repeat' first | refine hP _ ?_ | fail); try dsimp only)
        refine m_waitTop h ?_
        ((repeat' first | refine hP _ ?_ | fail); try dsimp only)
        refine ⟨fun c => absurd c (by decide), fun _ => ?_⟩
        ((repeat' first | refine hP _ ?_ | fail); try dsimp only)
        refine m_waitTop h ?_
        ((repeat' first | refine hP _ ?_ | fail); try dsimp only)
        refine ⟨fun _ => ?_, fun c => absurd c (by decide)⟩
        ((repeat' first | refine hP _ ?_ | fail); try dsimp only)
        exact hq0
    | cons x ws ih =>
      intro z v h hq
      have hn := h.1.2.2.1
      have hpn := h.1.2.2.2
      obtain ⟨hx1, hx2⟩ := h.2.2.2.2 x List.mem_cons_self
      have hb := h.2.2.2.1
      -- out it goes
      have out : ((4 ≤ x.1 ∧ x.1 ≤ 6) ∨ (all = true ∧ (x.1 = 2 ∨ x.1 = 3))) → P (cd_X12_closesSums.drop 18, [some (.ref 62), some (.int (b2i all))], [], (am_sh, v, w), 0, 0) := by
        intro hc
        have hwc : wc (x :: ws) = wc ws + 1 := by
          show wc ws + _ = _
          rw [if_neg (by omega)]
        have e1 : clP all (x :: ws) = ((x.1, 0) :: (clP all ws).1, (clP all ws).2) := if_pos hc
        rw [e1] at hq
        dsimp only at hq
        ((repeat' first | refine hP _ ?_ | fail); try dsimp only)
        refine m_waitTop h ?_
        ((repeat' first | refine hP _ ?_ | fail); try dsimp only)
        show am_run K I am_m (d + 1) 157 [.ref 62, .int (nI x.1), .int (nI 0)] _ _ _ _
        refine m_notes h (by omega) hx1 (by omega) (fun v1 f1 g1 g12 g68 g67 => ?_)
        ((iterate 7 refine hP _ ?_); try dsimp only)
        rw [g1 13 (by decide), h.2.1.2.2, List.length_cons, nI_pred]
        have pre2 : rs_pre (am_up v1 62 13 (nI ws.length)) T n p oo (z + 1) ws := by
          refine ⟨h.1.u ?_ ?_ ?_ hpn, ⟨?_, ?_, ?_⟩, ?_, ⟨?_, ?_, hb.2.2⟩, fun y hy => h.2.2.2.2 y (List.mem_cons_of_mem _ hy)⟩
          · rw [am_up_ne _ _ _ (by decide), f1.1 66 (by decide) (by decide) (by decide)]
          · rw [am_up_eq, if_neg (by decide), g1 7 (by decide)]
            exact h.1.1.1
          · rw [am_up_eq, if_neg (by decide), g1 8 (by decide)]
          · rw [am_up_eq, if_neg (by decide), g1 11 (by decide)]
            exact h.2.1.1
          · rw [am_up_eq, if_neg (by decide), g12]
          · rw [am_up_eq, if_pos ⟨rfl, rfl⟩]
          · rw [am_up_ne _ _ _ (by decide), g68]
            exact h.2.2.1.2
          · omega
          · rw [List.length_cons] at hb
            omega
        refine ih (z + 1) _ pre2 (fun v2 f2 p2 c2 j2 => ?_)
        refine hq v2 ((f1.u62 (by omega) _).tr f2 (by omega)) ?_ (cdR.app (c1 := [(x.1, 0)]) (cdR.one ?_) c2) (fun j h12 h13 => ?_)
        · rw [List.length_cons, show z + ((clP all ws).1.length + 1) = z + 1 + (clP all ws).1.length by omega]
          exact p2
        · rw [f2.2.2 z (by omega), am_up_ne _ _ _ (by decide), g67]
          unfold lc_R lc_tg
          dsimp only
          rw [if_neg (by omega)]
        · rw [j2 j h12 h13, am_up_eq, if_neg (fun q => h13 q.2), g1 j h12]
      have stay : ¬ ((4 ≤ x.1 ∧ x.1 ≤ 6) ∨ (all = true ∧ (x.1 = 2 ∨ x.1 = 3))) → Q none (am_sh, v, w) := by
        intro hc
        have e1 : clP all (x :: ws) = ([], x :: ws) := if_neg hc
        rw [e1] at hq
        exact hq v rsf.rf h cdR.nil (fun _ _ _ => rfl)
      -- the second question
      have snd : ¬ (4 ≤ x.1 ∧ x.1 ≤ 6) → P (cd_X12_closesSums.drop 8, [some (.ref 62), some (.int (b2i all))], [], (am_sh, v, w), 0, 0) := by
        intro hc
        ((repeat' first | refine hP _ ?_ | fail); try dsimp only)
        cases all with
        | false =>
          refine ⟨fun _ => ?_, fun c => absurd rfl c⟩
          ((repeat' first | refine hP _ ?_ | fail); try dsimp only)
          exact stay (fun q => q.elim hc (fun z => absurd z.1 (by decide)))
        | true =>
          refine ⟨fun c => absurd c (by decide), fun _ => ?_⟩
          ((repeat' first | refine hP _ ?_ | fail); try dsimp only)
          refine m_waitTop h ?_
          ((repeat' first | refine hP _ ?_ | fail); try dsimp only)
          refine ⟨fun c => out (Or.inr ⟨rfl, Or.inl ((nI_eq (b := 2) (by omega) (by omega)).mp c)⟩), fun c1 => ?_⟩
          ((repeat' first | refine hP _ ?_ | fail); try dsimp only)
          refine m_waitTop h ?_
          ((repeat' first | refine hP _ ?_ | fail); try dsimp only)
          refine ⟨fun c2 => ?_, fun c => out (Or.inr ⟨rfl, Or.inr ((nI_eq (b := 3) (by omega) (by omega)).mp c)⟩)⟩
          ((repeat' first | refine hP _ ?_ | fail); try dsimp only)
          refine stay (fun q => q.elim hc (fun z => z.2.elim (fun t => c1 ?_) (fun t => c2 ?_)))
          · show nI x.1 = 2
            rw [t]
            rfl
          · show nI x.1 = 3
            rw [t]
            rfl
      ((repeat' first | refine hP _ ?_ | fail); try dsimp only)
      refine m_waitTop h ?_
      ((repeat' first | refine hP _ ?_ | fail); try dsimp only)
      refine ⟨fun c => snd (fun q => absurd ((nI_ltI (b := 4) (by omega) (by omega)).mp c) (by omega)), fun c1 => ?_⟩
      have c1 : 4 ≤ x.1 := Nat.le_of_not_lt (fun q => c1 (nI_lt (b := 4) q (by omega)))
      ((repeat' first | refine hP _ ?_ | fail); try dsimp only)
      refine m_waitTop h ?_
      ((repeat' first | refine hP _ ?_ | fail); try dsimp only)
      refine ⟨fun c => out (Or.inl ⟨c1, (nI_leI (b := 6) (by omega) (by omega)).mp c⟩), fun c => snd (fun q => c (nI_le (b := 6) q.2 (by omega)))⟩
  exact key ws z v h hq
theorem stk_rev {f : Nat → Int32} : ∀ {s : List Int32}, stk f s → ∀ i x, s.reverse[i]? = some x → f i = x
  | [], _, i, x, h => absurd h (by simp)
  | y :: r, hs, i, x, h => by
    rw [List.reverse_cons] at h
    rcases Nat.lt_or_ge i r.reverse.length with q | q
    · rw [List.getElem?_append_left q] at h
      exact stk_rev hs.2 i x h
    · rw [List.getElem?_append_right q] at h
      have := lt_of_get h
      rw [List.length_reverse] at q this h
      have hi : i = r.length := by
        simp at this
        omega
      subst hi
      rw [Nat.sub_self] at h
      have : y = x := by simpa using h
      rw [← this]
      exact hs.1
set_option maxRecDepth 100000 in
set_option maxHeartbeats 4000000 in
theorem m_hasOpen {ext bs : List (Nat × Nat)} (h : rs_pre v T n p oo z (ext ++ bs)) (hq : Q (some (.int (b2i (ext.any (fun x => x.1 == 14))))) (am_sh, v, w)) : am_run K I am_m (d + 1) 164 [.ref 62, .int (nI bs.length)] (am_sh, v, w) 0 0 Q := by
  have hn := h.1.2.2.1
  have hpn := h.1.2.2.2
  have hl := h.2.2.2.1.2.1
  refine en_X12_hasOpenSum rfl ?_
  intro P hP
  have key : ∀ (l : List (Nat × Nat)) (k : Nat), (ext ++ bs).reverse.drop k = l → k ≤ (ext ++ bs).length → Q (some (.int (b2i (l.any (fun x => x.1 == 14))))) (am_sh, v, w) → P (cd_X12_hasOpenSum.drop 2, [some (.ref 62), some (.int (nI bs.length)), some (.int (nI k))], [], (am_sh, v, w), 0, 0) := by
    intro l
    induction l with
    | nil =>
      intro k hd hk hq
      have := drop_nil hd
      rw [List.length_reverse] at this
      ((repeat' first | refine hP _ ?_ | fail); try dsimp only)
      rw [h.2.1.2.2]
      refine ⟨fun _ => ?_, fun c => absurd (nI_le this (by omega)) c⟩
      ((repeat' first | refine hP _ ?_ | fail); try dsimp only)
      exact ⟨Or.inl rfl, hq⟩
    | cons x l ih =>
      intro k hd hk hq
      obtain ⟨e1, e2, e3⟩ := drop_at hd
      rw [List.length_reverse] at e3
      have hx := h.2.2.2.2 x (List.mem_reverse.mp (List.mem_of_getElem? e1))
      have e4 : v 68 k = wsI x := stk_rev h.2.2.1 k (wsI x) (by rw [← List.map_reverse, List.getElem?_map, e1]; rfl)
      ((repeat' first | refine hP _ ?_ | fail); try dsimp only)
      rw [h.2.1.2.2]
      refine ⟨fun c => absurd c (nI_ge e3 (by omega)), fun _ => ?_⟩
      ((repeat' first | refine hP _ ?_ | fail); try dsimp only)
      refine ⟨vp_in_nI (by omega) (by omega), ?_⟩
      ((repeat' first | refine hP _ ?_ | fail); try dsimp only)
      refine ⟨by decide, ?_⟩
      ((repeat' first | refine hP _ ?_ | fail); try dsimp only)
      rw [nI_clamp (by omega), e4]
      unfold wsI
      rw [ws_div hx.1 (by omega)]
      refine ⟨fun c => ?_, fun c => ?_⟩
      · have c : ¬ x.1 = 14 := fun q => c (by rw [q]; rfl)
        ((iterate 2 refine hP _ ?_); try dsimp only)
        rw [nI_1]
        refine ih (k + 1) e2 (by omega) ?_
        rw [List.any_cons, show (x.1 == 14) = false by simpa using c] at hq
        exact hq
      · have c : x.1 = 14 := (nI_eq (b := 14) (by omega) (by omega)).mp c
        rw [List.any_cons, show (x.1 == 14) = true by simpa using c] at hq
        ((repeat' first | refine hP _ ?_ | fail); try dsimp only)
        exact ⟨Or.inr rfl, hq⟩
  ((iterate 2 refine hP _ ?_); try dsimp only)
  refine key ext.reverse bs.length ?_ (by simp) ?_
  · rw [List.reverse_append, List.drop_append_of_le_length (by simp), List.drop_eq_nil_of_le (by simp)]
    rfl
  · rw [List.any_reverse]
    exact hq
end M92
