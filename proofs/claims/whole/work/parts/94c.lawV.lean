/-! ===== THE LAW read by the reference: jumps that wait ===== -/
def vw (k : Nat) (px : Option Nat) (e : Nat) (f : Nat → Int32) : Nat → Int32 := fun i => if px = some i then nI (k * 1048576 + e) else f i
def plk (k : Nat) (px : Option Nat) : List (Nat × Nat) := match px with
  | none => []
  | some x => [(k, x)]
def qok (k z0 z : Nat) (px : Option Nat) (f : Nat → Int32) : Prop := ∀ x, px = some x → z0 ≤ x ∧ x < z ∧ f x = nI (k * 1048576 + 0)
theorem vw_no {k e i : Nat} {px : Option Nat} {f : Nat → Int32} (h : ¬ px = some i) : vw k px e f i = f i := if_neg h
theorem vw_at {k e i : Nat} {f : Nat → Int32} : vw k (some i) e f i = nI (k * 1048576 + e) := if_pos rfl
theorem qok.no {k z0 z : Nat} {f : Nat → Int32} : qok k z0 z none f := fun _ h => absurd h (by simp)
theorem qok.ne {k z0 z i : Nat} {px : Option Nat} {f : Nat → Int32} (h : qok k z0 z px f) (hi : i < z0) : ¬ px = some i := fun q => by
  have := (h i q).1
  omega
theorem qok.ge {k z0 z i : Nat} {px : Option Nat} {f : Nat → Int32} (h : qok k z0 z px f) (hi : z ≤ i) : ¬ px = some i := fun q => by
  have := (h i q).2.1
  omega
def LDd (P : am_C → Prop) (w : am_X) (all : Bool) (v : am_V) : Prop := ∀ l2 : Option Value, P (cd_X12_lands.drop 0, [some (.ref 62), some (.int (b2i all)), l2], [], (am_sh, v, w), 0, 0)
section M94d
variable {K : am_K} {I : am_I} {d : Nat} {v : am_V} {w : am_X} {Q : Option Value → am_H → Prop} {P : am_C → Prop} {T : Nat → Int32} {n p oo z : Nat} {ws : List (Nat × Nat)} {all : Bool}
set_option maxRecDepth 100000 in
set_option maxHeartbeats 4000000 in
theorem LD_pop (hP : ∀ c, am_step K I (am_run K I am_m (d + 1)) cd_X12_lands 0 0 Q P c → P c) {k x : Nat} (hpre : rs_pre v T n p oo z ((k, x) :: ws)) (hk : k = 11 ∨ (all = true ∧ k = 12)) (hx : x < z) (hm : v 67 x = nI (k * 1048576 + 0)) (h : ∀ v', rsx v v' → (∀ i, v' 67 i = if x = i then nI (k * 1048576 + z) else v 67 i) → rs_pre v' T n p oo z ws → LDd P w all v') : LDd P w all v := by
  intro l2
  have hn := hpre.1.2.2.1
  have hpn := hpre.1.2.2.2
  have hb := hpre.2.2.2.1
  have hwc : wc ((k, x) :: ws) = wc ws + 0 := by
    show wc ws + _ = _
    rw [if_pos (by show k = 11 ∨ k = 12; omega)]
  rw [hwc, List.length_cons] at hb
  have go : P (cd_X12_lands.drop 10, [some (.ref 62), some (.int (b2i all)), l2], [], (am_sh, v, w), 0, 0) := by
    ((repeat' first | refine hP _ ?_ | fail); try dsimp only)
    rw [hpre.2.1.2.2, List.length_cons, nI_pred]
    refine ⟨vp_in_nI (by omega) (by omega), ?_⟩
    ((repeat' first | refine hP _ ?_ | fail); try dsimp only)
    refine ⟨by decide, ?_⟩
    have e : v 68 ws.length = wsI (k, x) := by
      have := hpre.2.2.1.1
      rw [List.length_map] at this
      exact this
    ((repeat' first | refine hP _ ?_ | fail); try dsimp only)
    rw [nI_clamp (by omega), e]
    unfold wsI
    rw [show am_rem (nI ((k, x).1 * 1048576 + (k, x).2)) 1048576 = nI x from lc_Rmod (by omega) (by omega)]
    refine ⟨vp_in_nI (by omega) (by omega), ?_⟩
    ((repeat' first | refine hP _ ?_ | fail); try dsimp only)
    refine ⟨by decide, ?_⟩
    ((repeat' first | refine hP _ ?_ | fail); try dsimp only)
    rw [nI_clamp (by omega), hm, lc_Rdiv (by omega) (by omega), hpre.2.1.2.1, ws_mul]
    refine ⟨vp_in_nI (by omega) (by omega), ?_⟩
    dsimp only
    rw [nI_clamp (by omega)]
    ((iterate 7 refine hP _ ?_); try dsimp only)
    rw [am_up_ne _ _ _ (show (62 : Nat) ≠ 67 by decide), hpre.2.1.2.2, List.length_cons, nI_pred]
    refine h _ ⟨fun c a b _ => by rw [am_up_ne _ _ _ a, am_up_ne _ _ _ b], fun j _ _ _ _ _ e => by rw [am_up_eq, if_neg (fun q => e q.2), am_up_ne _ _ _ (by decide)]⟩ (fun i => ?_) ⟨hpre.1.u ?_ ?_ ?_ hpn, ⟨?_, ?_, ?_⟩, ?_, ⟨by omega, by omega, hb.2.2⟩, fun y hy => hpre.2.2.2.2 y (List.mem_cons_of_mem _ hy)⟩ _
    · rw [am_up_ne _ _ _ (by decide), am_up_eq]
      by_cases q : x = i
      · rw [if_pos ⟨rfl, q.symm⟩, if_pos q]
      · rw [if_neg (fun t => q t.2.symm), if_neg q]
    · rw [am_up_ne _ _ _ (by decide), am_up_ne _ _ _ (by decide)]
    · rw [am_up_eq, if_neg (by decide), am_up_ne _ _ _ (by decide)]
      exact hpre.1.1.1
    · rw [am_up_eq, if_neg (by decide), am_up_ne _ _ _ (by decide)]
    · rw [am_up_eq, if_neg (by decide), am_up_ne _ _ _ (by decide)]
      exact hpre.2.1.1
    · rw [am_up_eq, if_neg (by decide), am_up_ne _ _ _ (by decide)]
      exact hpre.2.1.2.1
    · rw [am_up_eq, if_pos ⟨rfl, rfl⟩]
    · rw [am_up_ne _ _ _ (show (68 : Nat) ≠ 62 by decide), am_up_ne _ _ _ (show (68 : Nat) ≠ 67 by decide)]
      exact hpre.2.2.1.2
  ((repeat' first | refine hP _ ?_ | fail); try dsimp only)
  refine m_waitTop hpre ?_
  ((repeat' first | refine hP _ ?_ | fail); try dsimp only)
  rcases hk with rfl | ⟨rfl, rfl⟩
  · exact ⟨fun _ => go, fun c => absurd rfl c⟩
  · refine ⟨fun c => absurd c (by show ¬ nI 12 = 11; decide), fun _ => ?_⟩
    ((repeat' first | refine hP _ ?_ | fail); try dsimp only)
    refine ⟨fun c => absurd c (by decide), fun _ => ?_⟩
    ((repeat' first | refine hP _ ?_ | fail); try dsimp only)
    refine m_waitTop hpre ?_
    ((repeat' first | refine hP _ ?_ | fail); try dsimp only)
    exact ⟨fun c => absurd rfl c, fun _ => go⟩
set_option maxRecDepth 100000 in
set_option maxHeartbeats 4000000 in
theorem LD_end (hP : ∀ c, am_step K I (am_run K I am_m (d + 1)) cd_X12_lands 0 0 Q P c → P c) (hpre : rs_pre v T n p oo z ws) (hd : hdj ws (if all = true then 13 else 12)) (h : Q none (am_sh, v, w)) : LDd P w all v := by
  intro l2
  obtain ⟨x, l, rfl, h1, h2⟩ := hd
  have h12 : 12 ≤ x.1 := by
    cases all
    · simpa using h1
    · have : 13 ≤ x.1 := by simpa using h1
      omega
  ((repeat' first | refine hP _ ?_ | fail); try dsimp only)
  refine m_waitTop hpre ?_
  ((repeat' first | refine hP _ ?_ | fail); try dsimp only)
  refine ⟨fun c => absurd ((nI_eq (a := x.1) (b := 11) (by omega) (by omega)).mp c) (by omega), fun _ => ?_⟩
  ((repeat' first | refine hP _ ?_ | fail); try dsimp only)
  cases all with
  | false =>
    refine ⟨fun _ => ?_, fun c => absurd rfl c⟩
    ((repeat' first | refine hP _ ?_ | fail); try dsimp only)
    exact h
  | true =>
    have : 13 ≤ x.1 := by simpa using h1
    refine ⟨fun c => absurd c (by decide), fun _ => ?_⟩
    ((repeat' first | refine hP _ ?_ | fail); try dsimp only)
    refine m_waitTop hpre ?_
    ((repeat' first | refine hP _ ?_ | fail); try dsimp only)
    refine ⟨fun _ => ?_, fun c => absurd ((nI_eq (a := x.1) (b := 12) (by omega) (by omega)).mp c) (by omega)⟩
    ((repeat' first | refine hP _ ?_ | fail); try dsimp only)
    exact h
-- only & land
set_option maxRecDepth 100000 in
set_option maxHeartbeats 4000000 in
theorem m_landsA {px : Option Nat} {z0 : Nat} (hpre : rs_pre v T n p oo z (plk 11 px ++ ws)) (hd : hdj ws 12) (h11 : qok 11 z0 z px (v 67)) (hq : ∀ v', rsx v v' → (∀ i, v' 67 i = vw 11 px z (v 67) i) → rs_pre v' T n p oo z ws → Q none (am_sh, v', w)) : am_run K I am_m (d + 2) 167 [.ref 62, .int 0] (am_sh, v, w) 0 0 Q := by
  refine en_X12_lands rfl ?_
  intro P hP
  show P (cd_X12_lands.drop 0, [some (.ref 62), some (.int (b2i false)), none], [], (am_sh, v, w), 0, 0)
  cases px with
  | none => exact LD_end (all := false) hP hpre hd (hq v rsx.rf (fun i => rfl) hpre) _
  | some x =>
    obtain ⟨a1, a2, a3⟩ := h11 x rfl
    refine LD_pop (all := false) hP hpre (Or.inl rfl) a2 a3 (fun v1 f1 g1 p1 => ?_) _
    exact LD_end (all := false) hP p1 hd (hq v1 f1 (fun i => by rw [g1 i]; unfold vw; simp only [Option.some.injEq]) p1)
-- all land
set_option maxRecDepth 100000 in
set_option maxHeartbeats 4000000 in
theorem m_landsB {px py : Option Nat} {z0 : Nat} (hpre : rs_pre v T n p oo z (plk 11 px ++ (plk 12 py ++ ws))) (hd : hdj ws 13) (h11 : qok 11 z0 z px (v 67)) (h12 : qok 12 z0 z py (v 67)) (hq : ∀ v', rsx v v' → (∀ i, v' 67 i = vw 11 px z (vw 12 py z (v 67)) i) → rs_pre v' T n p oo z ws → Q none (am_sh, v', w)) : am_run K I am_m (d + 2) 167 [.ref 62, .int 1] (am_sh, v, w) 0 0 Q := by
  refine en_X12_lands rfl ?_
  intro P hP
  show P (cd_X12_lands.drop 0, [some (.ref 62), some (.int (b2i true)), none], [], (am_sh, v, w), 0, 0)
  have sec : ∀ u, rsx v u → (∀ i, u 67 i = vw 11 px z (v 67) i) → rs_pre u T n p oo z (plk 12 py ++ ws) → LDd P w true u := by
    intro u fu gu pu
    cases py with
    | none => exact LD_end (all := true) hP pu hd (hq u fu (fun i => gu i) pu)
    | some y =>
      obtain ⟨a1, a2, a3⟩ := h12 y rfl
      have ne : ¬ px = some y := fun q => by
        have := (h11 y q).2.2
        rw [a3] at this
        exact absurd this (by decide)
      refine LD_pop (all := true) hP pu (Or.inr ⟨rfl, rfl⟩) a2 (by rw [gu y, vw_no ne, a3]) (fun v1 f1 g1 p1 => ?_)
      refine LD_end (all := true) hP p1 hd (hq v1 (fu.tr f1) (fun i => ?_) p1)
      rw [g1 i]
      by_cases q : y = i
      · subst q
        rw [if_pos rfl, vw_no ne, vw_at]
      · rw [if_neg q, gu i]
        unfold vw
        rw [if_neg (show ¬ some y = some i by simpa using q)]
  cases px with
  | none => exact sec v rsx.rf (fun i => rfl) hpre _
  | some x =>
    obtain ⟨a1, a2, a3⟩ := h11 x rfl
    refine LD_pop (all := true) hP hpre (Or.inl rfl) a2 a3 (fun v1 f1 g1 p1 => ?_) _
    exact sec v1 f1 (fun i => by rw [g1 i]; unfold vw; simp only [Option.some.injEq]) p1
set_option maxRecDepth 100000 in
set_option maxHeartbeats 4000000 in
theorem m_jumps {k : Nat} (hk : k = 11 ∨ k = 12) (hpre : rs_pre v T n p oo z ws) (hp : p < n) (hq : ∀ v', rsf v v' z → v' 67 z = nI (k * 1048576 + 0) → rs_pre v' T n (p + 1) oo (z + 1) ((k, z) :: ws) → Q none (am_sh, v', w)) : am_run K I am_m (d + 2) 168 [.ref 62, .int (nI k)] (am_sh, v, w) 0 0 Q := by
  obtain ⟨hr, ⟨e11, e12, e13⟩, hst, ⟨hz, hl, ho⟩, hok⟩ := hpre
  have hn := hr.2.2.1
  refine en_X12_jumps rfl ?_
  intro P hP
  ((repeat' first | refine hP _ ?_ | fail); try dsimp only)
  rw [e13, e12, ws_mul]
  refine ⟨vp_in_nI (by omega) (by omega), ?_⟩
  dsimp only
  rw [nI_clamp (by omega)]
  ((repeat' first | refine hP _ ?_ | fail); try dsimp only)
  rw [am_up_ne _ _ _ (show (62 : Nat) ≠ 68 by decide), e13, nI_1]
  show am_run K I am_m (d + 1) 157 [.ref 62, .int (nI k), .int (nI 0)] _ _ _ _
  refine m_notes0 (z := z) (by rw [am_up_eq, if_neg (by decide), am_up_ne _ _ _ (by decide), e12]) (by omega) (by omega) (by omega) (fun v1 f1 g1 g12 g68 g67 => ?_)
  ((repeat' first | refine hP _ ?_ | fail); try dsimp only)
  rw [g1 7 (by decide), am_up_eq, if_neg (by decide), am_up_ne _ _ _ (show (62 : Nat) ≠ 68 by decide), hr.1.1, nI_1]
  refine hq _ ((((rsf.rf.u68 _ _).u62 (by omega) _).tr f1 (Nat.le_refl _)).u62 (by omega) _) ?_ ⟨hr.u ?_ ?_ ?_ hp, ⟨?_, ?_, ?_⟩, ?_, ⟨?_, ?_, ho⟩, ?_⟩
  · rw [am_up_ne _ _ _ (by decide), g67]
  · rw [am_up_ne _ _ _ (by decide), f1.1 66 (by decide) (by decide) (by decide), am_up_ne _ _ _ (by decide), am_up_ne _ _ _ (by decide)]
  · rw [am_up_eq, if_pos ⟨rfl, rfl⟩]
  · rw [am_up_eq, if_neg (by decide), g1 8 (by decide), am_up_eq, if_neg (by decide), am_up_ne _ _ _ (by decide)]
  · rw [am_up_eq, if_neg (by decide), g1 11 (by decide), am_up_eq, if_neg (by decide), am_up_ne _ _ _ (by decide), e11]
  · rw [am_up_eq, if_neg (by decide), g12]
  · rw [am_up_eq, if_neg (by decide), g1 13 (by decide), am_up_eq, if_pos ⟨rfl, rfl⟩]
    rfl
  · rw [am_up_ne _ _ _ (show (68 : Nat) ≠ 62 by decide), g68, am_up_ne _ _ _ (show (68 : Nat) ≠ 62 by decide)]
    have := stk_push (u := v) (k := 68) (x := wsI (k, z)) (s := ws.map wsI) hst
    rw [List.length_map] at this
    exact this
  · show z + 1 + (wc ws + _) ≤ p + 1
    rw [if_pos (by show k = 11 ∨ k = 12; exact hk)]
    omega
  · rw [List.length_cons]
    omega
  · intro x hx
    rcases List.mem_cons.mp hx with q | q
    · subst q
      exact ⟨by show k < 15; omega, by show z < 1000; omega⟩
    · exact hok x q
end M94d
