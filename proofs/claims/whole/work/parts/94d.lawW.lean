/-! ===== THE LAW read by the reference: a condition whole ===== -/
def THd (P : am_C → Prop) (w : am_X) (v : am_V) : Prop := P (cd_X12_readsCondition.drop 22, [some (.ref 62)], [], (am_sh, v, w), 0, 0)
def EHd (P : am_C → Prop) (w : am_X) (v : am_V) : Prop := P (cd_X12_readsCondition.drop 47, [some (.ref 62)], [], (am_sh, v, w), 0, 0)
section M94e
variable {K : am_K} {I : am_I} {d : Nat} {v : am_V} {w : am_X} {Q : Option Value → am_H → Prop} {P : am_C → Prop} {T : Nat → Int32} {n p oo z : Nat} {ws : List (Nat × Nat)}
set_option maxRecDepth 100000 in
set_option maxHeartbeats 4000000 in
theorem TH_open (hP : ∀ c, am_step K I (am_run K I am_m (d + 7)) cd_X12_readsCondition 0 0 Q P c → P c) {k : Nat} (hk : (k = 10 ∧ cc T n p = 33) ∨ (k = 13 ∧ cc T n p = 40)) (hpre : rs_pre v T n p oo z ws) (h5 : 6 ≤ oo → ∀ v', rsx v v' → v' 62 9 = flt (5, p) → Q (some (.int 0)) (am_sh, v', w)) (h1 : oo < 6 → ∀ v', rsf v v' z → rs_pre v' T n (p + 1) (oo + 1) z ((k, 0) :: ws) → THd P w v') : THd P w v := by
  have ho := hpre.2.2.2.1.2.2
  unfold THd at h1 ⊢
  have hlt : p < n := hk.elim (fun q => cc_p q.2 (by decide)) (fun q => cc_p q.2 (by decide))
  have go : P (cd_X12_readsCondition.drop 38, [some (.ref 62)], [.int (nI k), .ref 62], (am_sh, v, w), 0, 0) := by
    ((repeat' first | refine hP _ ?_ | fail); try dsimp only)
    refine m_opensR (k := k) hpre (by omega) (by omega) hlt (fun h6 v' f1 h9 => ?_) (fun h6 v1 f1 p1 e67 => ?_)
    · ((repeat' first | refine hP _ ?_ | fail); try dsimp only)
      refine ⟨fun c => absurd rfl c, fun _ => ?_⟩
      ((repeat' first | refine hP _ ?_ | fail); try dsimp only)
      exact ⟨Or.inl rfl, h5 (by omega) v' f1.x h9⟩
    · ((repeat' first | refine hP _ ?_ | fail); try dsimp only)
      exact ⟨fun _ => h1 h6 v1 f1 p1, fun c => absurd c (by decide)⟩
  have mid : P (cd_X12_readsCondition.drop 30, [some (.ref 62)], [], (am_sh, v, w), 0, 0) := by
    ((repeat' first | refine hP _ ?_ | fail); try dsimp only)
    refine m_here hpre.1 ?_
    ((repeat' first | refine hP _ ?_ | fail); try dsimp only)
    rcases hk with ⟨rfl, hc⟩ | ⟨rfl, hc⟩
    · refine ⟨fun c => absurd hc c, fun _ => ?_⟩
      ((iterate 2 refine hP _ ?_); try dsimp only)
      exact go
    · refine ⟨fun _ => ?_, fun c => absurd (hc.symm.trans c) (by decide)⟩
      ((iterate 1 refine hP _ ?_); try dsimp only)
      exact go
  ((repeat' first | refine hP _ ?_ | fail); try dsimp only)
  refine m_here hpre.1 ?_
  ((repeat' first | refine hP _ ?_ | fail); try dsimp only)
  refine ⟨fun _ => mid, fun c33 => ?_⟩
  ((repeat' first | refine hP _ ?_ | fail); try dsimp only)
  refine m_here hpre.1 ?_
  ((repeat' first | refine hP _ ?_ | fail); try dsimp only)
  refine ⟨fun c40 => ?_, fun _ => mid⟩
  exact (hk.elim (fun q => absurd q.2 c33) (fun q => absurd q.2 c40))
set_option maxRecDepth 100000 in
set_option maxHeartbeats 4000000 in
theorem TH_cmp (hP : ∀ c, am_step K I (am_run K I am_m (d + 7)) cd_X12_readsCondition 0 0 Q P c → P c) {F o0 k : Nat} {rest : List (Nat × Nat)} (c33 : ¬ cc T n p = 33) (c40 : ¬ cc T n p = 40) (hr : hdj rest 11) (hs : ∃ r, cmF T n F p (o0 + k) = some r) (hpre : rs_pre v T n p (o0 + k) z (nots k ++ rest)) (hE : ∀ e v', cmF T n F p (o0 + k) = some (.error e) → rsx v v' → v' 62 9 = flt e → Q (some (.int 0)) (am_sh, v', w)) (hO : ∀ p1 c v', cmF T n F p (o0 + k) = some (.ok (p1, c)) → rsf v v' z → rs_pre v' T n p1 o0 (z + c.length + k) rest → cdR (v' 67) z (c ++ nots k) → EHd P w v') : THd P w v := by
  unfold THd
  ((repeat' first | refine hP _ ?_ | fail); try dsimp only)
  refine m_here hpre.1 ?_
  ((repeat' first | refine hP _ ?_ | fail); try dsimp only)
  refine ⟨fun c => absurd c c33, fun _ => ?_⟩
  ((repeat' first | refine hP _ ?_ | fail); try dsimp only)
  refine m_here hpre.1 ?_
  ((repeat' first | refine hP _ ?_ | fail); try dsimp only)
  refine ⟨fun _ => ?_, fun c => absurd c c40⟩
  ((repeat' first | refine hP _ ?_ | fail); try dsimp only)
  refine m_cmp hr hs hpre (fun e v' he f' h9 => ?_) (fun p1 c v' he f' p' g' => ?_)
  · ((repeat' first | refine hP _ ?_ | fail); try dsimp only)
    refine ⟨fun c => absurd rfl c, fun _ => ?_⟩
    ((repeat' first | refine hP _ ?_ | fail); try dsimp only)
    exact ⟨Or.inl rfl, hE e v' he f' h9⟩
  · ((repeat' first | refine hP _ ?_ | fail); try dsimp only)
    exact ⟨fun _ => hO p1 c v' he f' p' g', fun c => absurd c (by decide)⟩
set_option maxRecDepth 100000 in
set_option maxHeartbeats 4000000 in
theorem EH_amp (hP : ∀ c, am_step K I (am_run K I am_m (d + 7)) cd_X12_readsCondition 0 0 Q P c → P c) {px : Option Nat} {z0 : Nat} (hc : cc T n p = 38) (hpre : rs_pre v T n p oo z (plk 11 px ++ ws)) (hd : hdj ws 12) (h11 : qok 11 z0 z px (v 67)) (h : ∀ v', rsx v v' → (∀ i, i < z → v' 67 i = vw 11 px z (v 67) i) → v' 67 z = nI (11 * 1048576 + 0) → rs_pre v' T n (p + 1) oo (z + 1) ((11, z) :: ws) → THd P w v') : EHd P w v := by
  unfold EHd
  have hlt := cc_p hc (by decide)
  ((repeat' first | refine hP _ ?_ | fail); try dsimp only)
  refine m_here hpre.1 ?_
  ((repeat' first | refine hP _ ?_ | fail); try dsimp only)
  refine ⟨fun _ => ?_, fun c => absurd (hc.symm.trans c) (by decide)⟩
  ((repeat' first | refine hP _ ?_ | fail); try dsimp only)
  refine m_here hpre.1 ?_
  ((repeat' first | refine hP _ ?_ | fail); try dsimp only)
  refine ⟨fun _ => ?_, fun c => absurd hc c⟩
  ((repeat' first | refine hP _ ?_ | fail); try dsimp only)
  refine m_here hpre.1 ?_
  ((repeat' first | refine hP _ ?_ | fail); try dsimp only)
  refine ⟨fun _ => ?_, fun c => absurd (hc.symm.trans c) (by decide)⟩
  ((repeat' first | refine hP _ ?_ | fail); try dsimp only)
  refine m_landsA hpre hd h11 (fun v1 f1 g1 p1 => ?_)
  ((repeat' first | refine hP _ ?_ | fail); try dsimp only)
  refine m_here p1.1 ?_
  ((repeat' first | refine hP _ ?_ | fail); try dsimp only)
  refine ⟨fun c => absurd hc c, fun _ => ?_⟩
  ((repeat' first | refine hP _ ?_ | fail); try dsimp only)
  show am_run K I am_m (d + 7) 168 [.ref 62, .int (nI 11)] _ _ _ _
  refine m_jumps (Or.inl rfl) p1 hlt (fun v2 f2 e2 p2 => ?_)
  ((iterate 1 refine hP _ ?_); try dsimp only)
  exact h v2 (f1.tr f2.x) (fun i hi => by rw [f2.2.2 i hi, g1 i]) e2 p2
set_option maxRecDepth 100000 in
set_option maxHeartbeats 4000000 in
theorem EH_bar (hP : ∀ c, am_step K I (am_run K I am_m (d + 7)) cd_X12_readsCondition 0 0 Q P c → P c) {px py : Option Nat} {z0 : Nat} (hc : cc T n p = 124) (hpre : rs_pre v T n p oo z (plk 11 px ++ (plk 12 py ++ ws))) (hd : hdj ws 13) (h11 : qok 11 z0 z px (v 67)) (h12 : qok 12 z0 z py (v 67)) (h : ∀ v', rsx v v' → (∀ i, i < z → v' 67 i = vw 11 px z (vw 12 py z (v 67)) i) → v' 67 z = nI (12 * 1048576 + 0) → rs_pre v' T n (p + 1) oo (z + 1) ((12, z) :: ws) → THd P w v') : EHd P w v := by
  unfold EHd
  have hlt := cc_p hc (by decide)
  ((repeat' first | refine hP _ ?_ | fail); try dsimp only)
  refine m_here hpre.1 ?_
  ((repeat' first | refine hP _ ?_ | fail); try dsimp only)
  refine ⟨fun _ => ?_, fun c => absurd (hc.symm.trans c) (by decide)⟩
  ((repeat' first | refine hP _ ?_ | fail); try dsimp only)
  refine m_here hpre.1 ?_
  ((repeat' first | refine hP _ ?_ | fail); try dsimp only)
  refine ⟨fun c => absurd (hc.symm.trans c) (by decide), fun _ => ?_⟩
  ((repeat' first | refine hP _ ?_ | fail); try dsimp only)
  refine m_here hpre.1 ?_
  ((repeat' first | refine hP _ ?_ | fail); try dsimp only)
  refine ⟨fun _ => ?_, fun c => absurd hc c⟩
  ((repeat' first | refine hP _ ?_ | fail); try dsimp only)
  refine m_here hpre.1 ?_
  ((repeat' first | refine hP _ ?_ | fail); try dsimp only)
  refine ⟨fun c => absurd hc c, fun _ => ?_⟩
  ((repeat' first | refine hP _ ?_ | fail); try dsimp only)
  refine m_landsB hpre hd h11 h12 (fun v1 f1 g1 p1 => ?_)
  ((repeat' first | refine hP _ ?_ | fail); try dsimp only)
  refine m_here p1.1 ?_
  ((repeat' first | refine hP _ ?_ | fail); try dsimp only)
  refine ⟨fun _ => ?_, fun c => absurd (hc.symm.trans c) (by decide)⟩
  ((repeat' first | refine hP _ ?_ | fail); try dsimp only)
  show am_run K I am_m (d + 7) 168 [.ref 62, .int (nI 12)] _ _ _ _
  refine m_jumps (Or.inr rfl) p1 hlt (fun v2 f2 e2 p2 => ?_)
  ((iterate 1 refine hP _ ?_); try dsimp only)
  exact h v2 (f1.tr f2.x) (fun i hi => by rw [f2.2.2 i hi, g1 i]) e2 p2
set_option maxRecDepth 100000 in
set_option maxHeartbeats 4000000 in
theorem EH_bad (hP : ∀ c, am_step K I (am_run K I am_m (d + 7)) cd_X12_readsCondition 0 0 Q P c → P c) (c41 : ¬ cc T n p = 41) (c38 : ¬ cc T n p = 38) (c124 : ¬ cc T n p = 124) (hpre : rs_pre v T n p oo z ws) (h : ∀ v', rsx v v' → v' 62 9 = flt (1, p) → Q (some (.int 0)) (am_sh, v', w)) : EHd P w v := by
  unfold EHd
  ((repeat' first | refine hP _ ?_ | fail); try dsimp only)
  refine m_here hpre.1 ?_
  ((repeat' first | refine hP _ ?_ | fail); try dsimp only)
  refine ⟨fun _ => ?_, fun c => absurd c c41⟩
  ((repeat' first | refine hP _ ?_ | fail); try dsimp only)
  refine m_here hpre.1 ?_
  ((repeat' first | refine hP _ ?_ | fail); try dsimp only)
  refine ⟨fun c => absurd c c38, fun _ => ?_⟩
  ((repeat' first | refine hP _ ?_ | fail); try dsimp only)
  refine m_here hpre.1 ?_
  ((repeat' first | refine hP _ ?_ | fail); try dsimp only)
  refine ⟨fun c => absurd c c124, fun _ => ?_⟩
  ((repeat' first | refine hP _ ?_ | fail); try dsimp only)
  rw [hpre.1.1.1]
  refine m_wrongAt ?_
  ((repeat' first | refine hP _ ?_ | fail); try dsimp only)
  exact ⟨Or.inl rfl, h _ (rsf.x (z := 0) (rsf.rf.u62 (by omega) _)) (by rw [am_up_eq, if_pos ⟨rfl, rfl⟩]; rfl)⟩
set_option maxRecDepth 100000 in
set_option maxHeartbeats 4000000 in
theorem EH_close (hP : ∀ c, am_step K I (am_run K I am_m (d + 7)) cd_X12_readsCondition 0 0 Q P c → P c) {px py : Option Nat} {z0 o0 k : Nat} {rest : List (Nat × Nat)} (hc : cc T n p = 41) (hpre : rs_pre v T n p (o0 + k + 1) z (plk 11 px ++ (plk 12 py ++ ((13, 0) :: (nots k ++ rest))))) (h11 : qok 11 z0 z px (v 67)) (h12 : qok 12 z0 z py (v 67)) (hr : hdj rest 11 ∨ (k = 0 ∧ rest = [])) (h0 : k = 0 → rest = [] → ∀ v', rsx v v' → (∀ i, i < z → v' 67 i = vw 11 px z (vw 12 py z (v 67)) i) → rs_pre v' T n (p + 1) o0 z [] → Q (some (.int 1)) (am_sh, v', w)) (h : hdj rest 11 → ∀ v', rsx v v' → (∀ i, i < z → v' 67 i = vw 11 px z (vw 12 py z (v 67)) i) → cdR (v' 67) z (nots k) → rs_pre v' T n (p + 1) o0 (z + k) rest → EHd P w v') : EHd P w v := by
  unfold EHd at h ⊢
  have hlt := cc_p hc (by decide)
  ((repeat' first | refine hP _ ?_ | fail); try dsimp only)
  refine m_here hpre.1 ?_
  ((repeat' first | refine hP _ ?_ | fail); try dsimp only)
  refine ⟨fun c => absurd hc c, fun _ => ?_⟩
  ((repeat' first | refine hP _ ?_ | fail); try dsimp only)
  refine m_landsB hpre ⟨(13, 0), _, rfl, Nat.le_refl _, Nat.le_refl _⟩ h11 h12 (fun v1 f1 g1 p1 => ?_)
  have hn := hpre.1.2.2.1
  have hb := p1.2.2.2.1
  have hwc : wc ((13, 0) :: (nots k ++ rest)) = wc (nots k ++ rest) + 1 := rfl
  rw [hwc, List.length_cons] at hb
  ((repeat' first | refine hP _ ?_ | fail); try dsimp only)
  have e13 : v1 62 13 - 1 = nI (nots k ++ rest).length := by rw [p1.2.1.2.2, List.length_cons, nI_pred]
  have e11 : am_up v1 62 13 (v1 62 13 - 1) 62 11 - 1 = nI (o0 + k) := by rw [am_up_eq, if_neg (by decide), p1.2.1.1, nI_pred]
  have e7 : am_up (am_up v1 62 13 (v1 62 13 - 1)) 62 11 (am_up v1 62 13 (v1 62 13 - 1) 62 11 - 1) 62 7 + 1 = nI (p + 1) := by rw [am_up_eq, if_neg (by decide), am_up_eq, if_neg (by decide), p1.1.1.1, nI_1]
  rw [e7, e11, e13]
  have e132 : am_up (am_up (am_up v1 62 13 (nI (nots k ++ rest).length)) 62 11 (nI (o0 + k))) 62 7 (nI (p + 1)) 62 13 = nI (nots k ++ rest).length := by rw [am_up_eq, if_neg (by decide), am_up_eq, if_neg (by decide), am_up_eq, if_pos ⟨rfl, rfl⟩]
  have f2 : rsf v1 (am_up (am_up (am_up v1 62 13 (nI (nots k ++ rest).length)) 62 11 (nI (o0 + k))) 62 7 (nI (p + 1))) z := ((rsf.rf.u62 (by omega) _).u62 (by omega) _).u62 (by omega) _
  have g2 : ∀ i, am_up (am_up (am_up v1 62 13 (nI (nots k ++ rest).length)) 62 11 (nI (o0 + k))) 62 7 (nI (p + 1)) 67 i = vw 11 px z (vw 12 py z (v 67)) i := fun i => by rw [am_up_ne _ _ _ (by decide), am_up_ne _ _ _ (by decide), am_up_ne _ _ _ (by decide), g1 i]
  have p2 : rs_pre (am_up (am_up (am_up v1 62 13 (nI (nots k ++ rest).length)) 62 11 (nI (o0 + k))) 62 7 (nI (p + 1))) T n (p + 1) (o0 + k) z (nots k ++ rest) := by
    refine ⟨p1.1.u ?_ ?_ ?_ hlt, ⟨?_, ?_, e132⟩, ?_, ⟨by omega, by omega, by omega⟩, fun y hy => p1.2.2.2.2 y (List.mem_cons_of_mem _ hy)⟩
    · rw [am_up_ne _ _ _ (by decide), am_up_ne _ _ _ (by decide), am_up_ne _ _ _ (by decide)]
    · rw [am_up_eq, if_pos ⟨rfl, rfl⟩]
    · rw [am_up_eq, if_neg (by decide), am_up_eq, if_neg (by decide), am_up_eq, if_neg (by decide)]
    · rw [am_up_eq, if_neg (by decide), am_up_eq, if_pos ⟨rfl, rfl⟩]
    · rw [am_up_eq, if_neg (by decide), am_up_eq, if_neg (by decide), am_up_eq, if_neg (by decide)]
      exact p1.2.1.2.1
    · rw [am_up_ne _ _ _ (show (68 : Nat) ≠ 62 by decide), am_up_ne _ _ _ (show (68 : Nat) ≠ 62 by decide), am_up_ne _ _ _ (show (68 : Nat) ≠ 62 by decide)]
      exact p1.2.2.1.2
  rw [e132]
  rcases hr with hr | ⟨rfl, rfl⟩
  · have hpos : 0 < (nots k ++ rest).length := by
      obtain ⟨x, l, rfl, -, -⟩ := hr
      simp
      omega
    refine ⟨fun _ => ?_, fun c => absurd c (nI_ne0 (by omega) (by omega))⟩
    ((repeat' first | refine hP _ ?_ | fail); try dsimp only)
    refine m_ends hr k o0 z _ _ p2 (fun v3 f3 p3 c3 => ?_)
    ((iterate 1 refine hP _ ?_); try dsimp only)
    exact h hr v3 (f1.tr (f2.x.tr f3.x)) (fun i hi => by rw [f3.2.2 i hi, g2 i]) c3 p3
  · refine ⟨fun c => absurd rfl c, fun _ => ?_⟩
    ((repeat' first | refine hP _ ?_ | fail); try dsimp only)
    exact ⟨Or.inr rfl, h0 rfl rfl _ (f1.tr f2.x) (fun i hi => g2 i) p2⟩
end M94e
