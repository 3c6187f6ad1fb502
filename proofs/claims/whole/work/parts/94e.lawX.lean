/-! ===== THE LAW read by the reference: conditions by their parts ===== -/
section M94f
variable (w : am_X) (Q : Option Value → am_H → Prop) (P : am_C → Prop) (T : Nat → Int32) (n : Nat)
def xErr (r : lp_R) (v : am_V) : Prop := ∀ e v', r = some (.error e) → rsx v v' → v' 62 9 = flt e → Q (some (.int 0)) (am_sh, v', w)
def CT5 (F : Nat) : Prop := ∀ (p o0 k z : Nat) (rest : List (Nat × Nat)) (v : am_V), (∃ r, lpr T n F 5 p (o0 + k) = some r) → hdj rest 11 → rs_pre v T n p (o0 + k) z (nots k ++ rest) → xErr w Q (lpr T n F 5 p (o0 + k)) v → (∀ p1 c v', lpr T n F 5 p (o0 + k) = some (.ok (p1, c)) → rsf v v' z → rs_pre v' T n p1 o0 (z + c.length + k) rest → cdR (v' 67) z (c ++ nots k) → EHd P w v') → THd P w v
def CT6 (F : Nat) : Prop := ∀ (p oo z : Nat) (qs : List (Nat × Nat)) (v : am_V), (∃ r, lpr T n F 6 p oo = some r) → hdj qs 12 → rs_pre v T n p oo z qs → xErr w Q (lpr T n F 6 p oo) v → (∀ p1 c px v', lpr T n F 6 p oo = some (.ok (p1, c)) → rsx v v' → (∀ i, i < z → vw 11 px (z + c.length) (v' 67) i = v 67 i) → qok 11 z (z + c.length) px (v' 67) → rs_pre v' T n p1 oo (z + c.length) (plk 11 px ++ qs) → cdR (vw 11 px (z + c.length) (v' 67)) z c → ¬ cc T n p1 = 38 → EHd P w v') → THd P w v
def CT7 (F : Nat) : Prop := ∀ (p oo z0 z : Nat) (qs : List (Nat × Nat)) (px : Option Nat) (v : am_V), (∃ r, lpr T n F 7 p oo = some r) → hdj qs 12 → z0 ≤ z → rs_pre v T n p oo z (plk 11 px ++ qs) → qok 11 z0 z px (v 67) → xErr w Q (lpr T n F 7 p oo) v → (∀ p1 c px' v', lpr T n F 7 p oo = some (.ok (p1, c)) → rsx v v' → (∀ i, i < z → vw 11 px' (z + c.length) (v' 67) i = vw 11 px z (v 67) i) → qok 11 z0 (z + c.length) px' (v' 67) → rs_pre v' T n p1 oo (z + c.length) (plk 11 px' ++ qs) → cdR (vw 11 px' (z + c.length) (v' 67)) z c → ¬ cc T n p1 = 38 → EHd P w v') → EHd P w v
def CT8 (F : Nat) : Prop := ∀ (p oo z : Nat) (qs : List (Nat × Nat)) (v : am_V), (∃ r, lpr T n F 8 p oo = some r) → hdj qs 13 → rs_pre v T n p oo z qs → xErr w Q (lpr T n F 8 p oo) v → (∀ p1 c px py v', lpr T n F 8 p oo = some (.ok (p1, c)) → rsx v v' → (∀ i, i < z → vw 11 px (z + c.length) (vw 12 py (z + c.length) (v' 67)) i = v 67 i) → qok 11 z (z + c.length) px (v' 67) → qok 12 z (z + c.length) py (v' 67) → rs_pre v' T n p1 oo (z + c.length) (plk 11 px ++ (plk 12 py ++ qs)) → cdR (vw 11 px (z + c.length) (vw 12 py (z + c.length) (v' 67))) z c → ¬ cc T n p1 = 38 → ¬ cc T n p1 = 124 → EHd P w v') → THd P w v
def CT9 (F : Nat) : Prop := ∀ (p oo z0 z : Nat) (qs : List (Nat × Nat)) (px py : Option Nat) (v : am_V), (∃ r, lpr T n F 9 p oo = some r) → hdj qs 13 → z0 ≤ z → ¬ cc T n p = 38 → rs_pre v T n p oo z (plk 11 px ++ (plk 12 py ++ qs)) → qok 11 z0 z px (v 67) → qok 12 z0 z py (v 67) → xErr w Q (lpr T n F 9 p oo) v → (∀ p1 c px' py' v', lpr T n F 9 p oo = some (.ok (p1, c)) → rsx v v' → (∀ i, i < z → vw 11 px' (z + c.length) (vw 12 py' (z + c.length) (v' 67)) i = vw 11 px z (vw 12 py z (v 67)) i) → qok 11 z0 (z + c.length) px' (v' 67) → qok 12 z0 (z + c.length) py' (v' 67) → rs_pre v' T n p1 oo (z + c.length) (plk 11 px' ++ (plk 12 py' ++ qs)) → cdR (vw 11 px' (z + c.length) (vw 12 py' (z + c.length) (v' 67))) z c → ¬ cc T n p1 = 38 → ¬ cc T n p1 = 124 → EHd P w v') → EHd P w v
end M94f
section M94g
variable {K : am_K} {I : am_I} {d : Nat} {w : am_X} {Q : Option Value → am_H → Prop} {P : am_C → Prop} {T : Nat → Int32} {n : Nat}
theorem cdR_jmp {k z e : Nat} {c : List lc_O} {f : Nat → Int32} (hk : 11 ≤ k) (h : f z = nI (k * 1048576 + e)) (he : e = z + 1 + c.length) : f z = lc_R z (k, c.length + 1) := by
  rw [h, he]
  unfold lc_R lc_tg
  dsimp only
  rw [if_pos hk, show z + (c.length + 1) = z + 1 + c.length by omega]
theorem ct6_s {F : Nat} (h5 : CT5 w Q P T n F) (h7 : CT7 w Q P T n F) : CT6 w Q P T n (F + 1) := by
  intro p oo z qs v hs hd hpre hE hO
  rw [lpr_6] at hs
  unfold xErr at hE
  rw [lpr_6] at hE
  simp only [lpr_6] at hO
  refine h5 p oo 0 z qs v (lp_sub hs) (hd.m (by omega)) hpre (fun e v' he f' h9 => hE e v' (by rw [show oo = oo + 0 from rfl, he]; rfl) f' h9) (fun p1 c1 v1 he f1 p1' g1 => ?_)
  have he : lpr T n F 5 p oo = some (.ok (p1, c1)) := he
  have hs2 := lp_sub2 hs he rfl
  rw [show nots 0 = [] from rfl, List.append_nil] at g1
  refine h7 p1 oo z (z + c1.length) qs none v1 hs2 hd (by omega) p1' qok.no (fun e v' he' f' h9 => ?_) (fun p2 c2 px v2 he' f2 g2 q2 p2' d2 n38 => ?_)
  · refine hE e v' ?_ (f1.x.tr f') h9
    rw [he]
    show lpb (lpr T n F 7 p1 oo) _ = _
    rw [he']
    rfl
  · have el : z + c1.length + c2.length = z + (c1 ++ c2).length := by
      rw [List.length_append]
      omega
    rw [el] at g2 q2 p2' d2
    refine hO p2 (c1 ++ c2) px v2 ?_ (f1.x.tr f2) (fun i hi => ?_) q2 p2' (cdR.app (g1.of (fun i _ hi => g2 i hi)) d2) n38
    · rw [he]
      show lpb (lpr T n F 7 p1 oo) _ = _
      rw [he']
      rfl
    · rw [g2 i (by omega)]
      exact f1.2.2 i hi
theorem ct7_s {F : Nat} (hP : ∀ c, am_step K I (am_run K I am_m (d + 7)) cd_X12_readsCondition 0 0 Q P c → P c) (h5 : CT5 w Q P T n F) (h7 : CT7 w Q P T n F) : CT7 w Q P T n (F + 1) := by
  intro p oo z0 z qs px v hs hd hz hpre hq hE hO
  rw [lpr_7] at hs
  unfold xErr at hE
  rw [lpr_7] at hE
  simp only [lpr_7] at hO
  by_cases hc : cc T n p = 38
  · rw [if_pos hc] at hs hE
    simp only [if_pos hc] at hO
    refine EH_amp hP hc hpre hd hq (fun v1 f1 g1 e1 p1 => ?_)
    refine h5 (p + 1) oo 0 (z + 1) ((11, z) :: qs) v1 (lp_sub hs) ⟨_, _, rfl, Nat.le_refl _, by show 11 ≤ 13; omega⟩ p1 (fun e v' he f' h9 => hE e v' (by rw [show oo = oo + 0 from rfl, he]; rfl) (f1.tr f') h9) (fun p2 c1 v2 he f2 p2' g2 => ?_)
    have he : lpr T n F 5 (p + 1) oo = some (.ok (p2, c1)) := he
    have hs2 := lp_sub2 hs he rfl
    rw [show nots 0 = [] from rfl, List.append_nil] at g2
    refine h7 p2 oo z0 (z + 1 + c1.length) qs (some z) v2 hs2 hd (by omega) p2' (fun x hx => ?_) (fun e v' he' f' h9 => ?_) (fun p3 c2 px' v3 he' f3 g3 q3 p3' d3 n38 => ?_)
    · have : z = x := by simpa using hx
      subst this
      exact ⟨hz, by omega, by rw [f2.2.2 z (by omega), e1]⟩
    · refine hE e v' ?_ ((f1.tr f2.x).tr f') h9
      rw [he]
      show lpb (lpr T n F 7 p2 oo) _ = _
      rw [he']
      rfl
    · have el : z + 1 + c1.length + c2.length = z + ((11, c1.length + 1) :: (c1 ++ c2)).length := by
        rw [List.length_cons, List.length_append]
        omega
      rw [el] at g3 q3 p3' d3
      refine hO p3 _ px' v3 ?_ ((f1.tr f2.x).tr f3) (fun i hi => ?_) q3 p3' ?_ n38
      · rw [he]
        show lpb (lpr T n F 7 p2 oo) _ = _
        rw [he']
        rfl
      · rw [g3 i (by omega), vw_no (show ¬ some z = some i by simp; omega), f2.2.2 i (by omega), g1 i hi]
      · refine cdR.app (c1 := [(11, c1.length + 1)]) (cdR.one ?_) (cdR.app (g2.of (fun i a b => ?_)) d3)
        · refine cdR_jmp (by omega) (e := z + 1 + c1.length) ?_ rfl
          rw [g3 z (by omega), vw_at]
        · have a : z + 1 ≤ i := a
          have b : i < z + 1 + c1.length := b
          rw [g3 i b, vw_no (show ¬ some z = some i by simp; omega)]
  · rw [if_neg hc] at hE
    simp only [if_neg hc] at hO
    exact hO p [] px v rfl rsx.rf (fun i _ => rfl) hq hpre cdR.nil hc
theorem ct8_s {F : Nat} (h6 : CT6 w Q P T n F) (h9 : CT9 w Q P T n F) : CT8 w Q P T n (F + 1) := by
  intro p oo z qs v hs hd hpre hE hO
  rw [lpr_8] at hs
  unfold xErr at hE
  rw [lpr_8] at hE
  simp only [lpr_8] at hO
  refine h6 p oo z qs v (lp_sub hs) (hd.m (by omega)) hpre (fun e v' he f' h9 => hE e v' (by rw [he]; rfl) f' h9) (fun p1 c1 px v1 he f1 k1 q1 p1' g1 n38 => ?_)
  have hs2 := lp_sub2 hs he rfl
  refine h9 p1 oo z (z + c1.length) qs px none v1 hs2 hd (by omega) n38 p1' q1 qok.no (fun e v' he' f' h9 => ?_) (fun p2 c2 px' py' v2 he' f2 g2 q2 r2 p2' d2 n38' n124 => ?_)
  · refine hE e v' ?_ (f1.tr f') h9
    rw [he]
    show lpb (lpr T n F 9 p1 oo) _ = _
    rw [he']
    rfl
  · have el : z + c1.length + c2.length = z + (c1 ++ c2).length := by
      rw [List.length_append]
      omega
    rw [el] at g2 q2 r2 p2' d2
    refine hO p2 (c1 ++ c2) px' py' v2 ?_ (f1.tr f2) (fun i hi => ?_) q2 r2 p2' (cdR.app (g1.of (fun i _ hi => g2 i hi)) d2) n38' n124
    · rw [he]
      show lpb (lpr T n F 9 p1 oo) _ = _
      rw [he']
      rfl
    · rw [g2 i (by omega)]
      exact k1 i hi
theorem ct9_s {F : Nat} (hP : ∀ c, am_step K I (am_run K I am_m (d + 7)) cd_X12_readsCondition 0 0 Q P c → P c) (h6 : CT6 w Q P T n F) (h9 : CT9 w Q P T n F) : CT9 w Q P T n (F + 1) := by
  intro p oo z0 z qs px py v hs hd hz n38 hpre hq hr hE hO
  rw [lpr_9] at hs
  unfold xErr at hE
  rw [lpr_9] at hE
  simp only [lpr_9] at hO
  by_cases hc : cc T n p = 124
  · rw [if_pos hc] at hs hE
    simp only [if_pos hc] at hO
    refine EH_bar hP hc hpre hd hq hr (fun v1 f1 g1 e1 p1 => ?_)
    refine h6 (p + 1) oo (z + 1) ((12, z) :: qs) v1 (lp_sub hs) ⟨_, _, rfl, Nat.le_refl _, by show 12 ≤ 13; omega⟩ p1 (fun e v' he f' h9 => hE e v' (by rw [he]; rfl) (f1.tr f') h9) (fun p2 c1 px1 v2 he f2 k2 q2 p2' g2 m38 => ?_)
    have hs2 := lp_sub2 hs he rfl
    have k2' : ∀ i, i < z + 1 → v2 67 i = v1 67 i := fun i hi => by
      have := k2 i hi
      rw [vw_no (q2.ne hi)] at this
      exact this
    refine h9 p2 oo z0 (z + 1 + c1.length) qs px1 (some z) v2 hs2 hd (by omega) m38 p2' (fun x hx => ?_) (fun x hx => ?_) (fun e v' he' f' h9 => ?_) (fun p3 c2 px' py' v3 he' f3 g3 q3 r3 p3' d3 n38' n124 => ?_)
    · obtain ⟨a1, a2, a3⟩ := q2 x hx
      exact ⟨by omega, a2, a3⟩
    · have : z = x := by simpa using hx
      subst this
      exact ⟨hz, by omega, by rw [k2' z (by omega), e1]⟩
    · refine hE e v' ?_ ((f1.tr f2).tr f') h9
      rw [he]
      show lpb (lpr T n F 9 p2 oo) _ = _
      rw [he']
      rfl
    · have el : z + 1 + c1.length + c2.length = z + ((12, c1.length + 1) :: (c1 ++ c2)).length := by
        rw [List.length_cons, List.length_append]
        omega
      rw [el] at g3 q3 r3 p3' d3
      refine hO p3 _ px' py' v3 ?_ ((f1.tr f2).tr f3) (fun i hi => ?_) q3 r3 p3' ?_ n38' n124
      · rw [he]
        show lpb (lpr T n F 9 p2 oo) _ = _
        rw [he']
        rfl
      · rw [g3 i (by omega), vw_no (q2.ne (by omega)), vw_no (show ¬ some z = some i by simp; omega), k2' i (by omega), g1 i hi]
      · refine cdR.app (c1 := [(12, c1.length + 1)]) (cdR.one ?_) (cdR.app (g2.of (fun i a b => ?_)) d3)
        · refine cdR_jmp (by omega) (e := z + 1 + c1.length) ?_ rfl
          rw [g3 z (by omega), vw_no (q2.ne (by omega)), vw_at]
        · have a : z + 1 ≤ i := a
          have b : i < z + 1 + c1.length := b
          rw [g3 i b]
          unfold vw
          rw [if_neg (show ¬ some z = some i by simp; omega)]
  · rw [if_neg hc] at hE
    simp only [if_neg hc] at hO
    exact hO p [] px py v rfl rsx.rf (fun i _ => rfl) hq hr hpre cdR.nil n38 hc
theorem ct5_s {F : Nat} (hP : ∀ c, am_step K I (am_run K I am_m (d + 7)) cd_X12_readsCondition 0 0 Q P c → P c) (h5 : CT5 w Q P T n F) (h8 : CT8 w Q P T n F) : CT5 w Q P T n (F + 1) := by
  intro p o0 k z rest v hs hd hpre hE hO
  rw [lpr_5] at hs
  unfold xErr at hE
  rw [lpr_5] at hE
  simp only [lpr_5] at hO
  by_cases c40 : cc T n p = 40
  · rw [if_pos c40] at hs hE
    simp only [if_pos c40] at hO
    refine TH_open hP (Or.inr ⟨rfl, c40⟩) hpre (fun h6 v' f' h9 => ?_) (fun h6 v1 f1 p1 => ?_)
    · rw [if_pos h6] at hE
      exact hE _ v' rfl f' h9
    · rw [if_neg (by omega)] at hs hE
      simp only [if_neg (show ¬ 6 ≤ o0 + k by omega)] at hO
      refine h8 (p + 1) (o0 + k + 1) z ((13, 0) :: (nots k ++ rest)) v1 (lp_sub hs) ⟨_, _, rfl, Nat.le_refl _, Nat.le_refl _⟩ p1 (fun e v' he f' h9 => hE e v' (by rw [he]; rfl) (f1.x.tr f') h9) (fun p2 c px py v2 he f2 g2 q2 r2 p2' d2 n38 n124 => ?_)
      by_cases c41 : cc T n p2 = 41
      · refine EH_close hP c41 p2' q2 r2 (Or.inl hd) (fun _ h0 => ?_) (fun _ v3 f3 g3 d3 p3 => ?_)
        · obtain ⟨x, l, e, -, -⟩ := hd
          rw [h0] at e
          exact absurd e (by simp)
        · refine hO (p2 + 1) c v3 ?_ (((f1.x.tr f2).tr f3).f (fun i hi => ?_)) p3 (cdR.app (d2.of (fun i a b => g3 i b)) d3)
          · rw [he]
            show (if _ then _ else _) = _
            rw [if_pos c41]
          · rw [g3 i (by omega), g2 i hi, f1.2.2 i hi]
      · refine EH_bad hP c41 n38 n124 p2' (fun v3 f3 h9 => ?_)
        refine hE (1, p2) v3 ?_ ((f1.x.tr f2).tr f3) h9
        rw [he]
        show (if _ then _ else _) = _
        rw [if_neg c41]
  · rw [if_neg c40] at hs hE
    simp only [if_neg c40] at hO
    by_cases c33 : cc T n p = 33
    · rw [if_pos c33] at hs hE
      simp only [if_pos c33] at hO
      refine TH_open hP (Or.inl ⟨rfl, c33⟩) hpre (fun h6 v' f' h9 => ?_) (fun h6 v1 f1 p1 => ?_)
      · rw [if_pos h6] at hE
        exact hE _ v' rfl f' h9
      · rw [if_neg (by omega)] at hs hE
        simp only [if_neg (show ¬ 6 ≤ o0 + k by omega)] at hO
        refine h5 (p + 1) o0 (k + 1) z rest v1 (lp_sub hs) hd p1 (fun e v' he f' h9 => hE e v' (by rw [show o0 + k + 1 = o0 + (k + 1) from rfl, he]; rfl) (f1.x.tr f') h9) (fun p2 c v2 he f2 p2' d2 => ?_)
        have he : lpr T n F 5 (p + 1) (o0 + k + 1) = some (.ok (p2, c)) := he
        refine hO p2 (c ++ [(10, 0)]) v2 (by rw [he]; rfl) (f1.tr f2 (Nat.le_refl _)) ?_ ?_
        · rw [List.length_append, List.length_singleton, show z + (c.length + 1) + k = z + c.length + (k + 1) by omega]
          exact p2'
        · rw [List.append_assoc]
          exact d2
    · rw [if_neg c33] at hs hE
      simp only [if_neg c33] at hO
      exact TH_cmp hP c33 c40 hd hs hpre hE hO
theorem ct_all (hP : ∀ c, am_step K I (am_run K I am_m (d + 7)) cd_X12_readsCondition 0 0 Q P c → P c) : ∀ F, CT5 w Q P T n F ∧ CT6 w Q P T n F ∧ CT7 w Q P T n F ∧ CT8 w Q P T n F ∧ CT9 w Q P T n F := by
  intro F
  induction F with
  | zero =>
    refine ⟨fun p o0 k z rest v hs => absurd hs (by simp [lpr]), fun p oo z qs v hs => absurd hs (by simp [lpr]), fun p oo z0 z qs px v hs => absurd hs (by simp [lpr]), fun p oo z qs v hs => absurd hs (by simp [lpr]), fun p oo z0 z qs px py v hs => absurd hs (by simp [lpr])⟩
  | succ F ih =>
    obtain ⟨h5, h6, h7, h8, h9⟩ := ih
    exact ⟨ct5_s hP h5 h8, ct6_s h5 h7, ct7_s hP h5 h7, ct8_s h6 h9, ct9_s hP h6 h9⟩
end M94g
/-- the test of a rule -/
def tsF (T : Nat → Int32) (n F p : Nat) : lp_R := if cc T n p = 40 then lpr T n (F + 1) 5 p 0 else some (.error (1, p))
set_option maxRecDepth 100000 in
set_option maxHeartbeats 4000000 in
theorem m_readsCond {K : am_K} {I : am_I} {d : Nat} {v : am_V} {w : am_X} {Q : Option Value → am_H → Prop} {T : Nat → Int32} {n F p z : Nat} (hs : ∃ r, tsF T n F p = some r) (hr : rdR v T n p) (h12 : v 62 12 = nI z) (hz : z ≤ p) (hE : ∀ e v', tsF T n F p = some (.error e) → rsx v v' → v' 62 9 = flt e → Q (some (.int 0)) (am_sh, v', w)) (hO : ∀ p1 c v', tsF T n F p = some (.ok (p1, c)) → rsf v v' z → rdR v' T n p1 → v' 62 12 = nI (z + c.length) → z + c.length ≤ p1 → cdR (v' 67) z c → Q (some (.int 1)) (am_sh, v', w)) : am_run K I am_m (d + 8) 170 [.ref 62] (am_sh, v, w) 0 0 Q := by
  have hn := hr.2.2.1
  unfold tsF at hs hE hO
  refine en_X12_readsCondition rfl ?_
  intro P hP
  ((repeat' first | refine hP _ ?_ | fail); try dsimp only)
  refine m_here hr ?_
  ((repeat' first | refine hP _ ?_ | fail); try dsimp only)
  refine ⟨fun c40 => ?_, fun c40 => ?_⟩
  · rw [if_pos c40, lpr_5, if_pos c40, if_neg (by omega)] at hs hE
    simp only [if_pos c40, lpr_5, if_neg (show ¬ 6 ≤ 0 by omega)] at hO
    have hlt := cc_p c40 (by decide)
    ((repeat' first | refine hP _ ?_ | fail); try dsimp only)
    show am_run K I am_m (d + 7) 158 [.ref 62, .int (nI 13)] _ _ _ _
    have p0 : rs_pre (am_up (am_up v 62 11 0) 62 13 0) T n p 0 z [] := by
      refine ⟨hr.u ?_ ?_ ?_ hr.2.2.2, ⟨?_, ?_, ?_⟩, trivial, ⟨by show z + 0 ≤ p; omega, by show 0 ≤ p; omega, by omega⟩, fun x hx => absurd hx (by simp)⟩
      · rw [am_up_ne _ _ _ (by decide), am_up_ne _ _ _ (by decide)]
      · rw [am_up_eq, if_neg (by decide), am_up_eq, if_neg (by decide)]
        exact hr.1.1
      · rw [am_up_eq, if_neg (by decide), am_up_eq, if_neg (by decide)]
      · rw [am_up_eq, if_neg (by decide), am_up_eq, if_pos ⟨rfl, rfl⟩]
        rfl
      · rw [am_up_eq, if_neg (by decide), am_up_eq, if_neg (by decide), h12]
      · rw [am_up_eq, if_pos ⟨rfl, rfl⟩]
        rfl
    have f0 : rsf v (am_up (am_up v 62 11 0) 62 13 0) z := (rsf.rf.u62 (by omega) _).u62 (by omega) _
    refine m_opensR (k := 13) p0 (by omega) (by omega) hlt (fun h6 => absurd h6 (by omega)) (fun _ v1 f1 p1 e67 => ?_)
    ((repeat' first | refine hP _ ?_ | fail); try dsimp only)
    refine ⟨fun _ => ?_, fun c => absurd c (by decide)⟩
    refine (ct_all (w := w) (T := T) (n := n) hP F).2.2.2.1 (p + 1) 1 z [(13, 0)] v1 (lp_sub hs) ⟨_, _, rfl, Nat.le_refl _, Nat.le_refl _⟩ p1 (fun e v' he f' h9 => hE e v' (by rw [he]; rfl) (f0.x.tr (f1.x.tr f')) h9) (fun p2 c px py v2 he f2 g2 q2 r2 p2' d2 n38 n124 => ?_)
    by_cases c41 : cc T n p2 = 41
    · refine EH_close (o0 := 0) (k := 0) (rest := []) hP c41 p2' q2 r2 (Or.inr ⟨rfl, rfl⟩) (fun _ _ v3 f3 g3 p3 => ?_) (fun h => ?_)
      · refine hO (p2 + 1) c v3 ?_ ((f0.x.tr ((f1.x.tr f2).tr f3)).f (fun i hi => ?_)) p3.1 p3.2.1.2.1 ?_ (d2.of (fun i a b => g3 i b))
        · rw [he]
          show (if _ then _ else _) = _
          rw [if_pos c41]
        · rw [g3 i (by omega), g2 i hi, f1.2.2 i hi, f0.2.2 i hi]
        · exact p3.2.2.2.1.1
      · obtain ⟨x, l, e, -, -⟩ := h
        exact absurd e (by simp)
    · refine EH_bad hP c41 n38 n124 p2' (fun v3 f3 h9 => ?_)
      refine hE (1, p2) v3 ?_ (f0.x.tr ((f1.x.tr f2).tr f3)) h9
      rw [he]
      show (if _ then _ else _) = _
      rw [if_neg c41]
  · rw [if_neg c40] at hE
    ((repeat' first | refine hP _ ?_ | fail); try dsimp only)
    rw [hr.1.1]
    refine m_wrongAt ?_
    ((repeat' first | refine hP _ ?_ | fail); try dsimp only)
    exact ⟨Or.inl rfl, hE _ _ rfl (rsf.x (z := 0) (rsf.rf.u62 (by omega) _)) (by rw [am_up_eq, if_pos ⟨rfl, rfl⟩]; rfl)⟩
