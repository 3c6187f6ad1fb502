/-! ===== THE LAW read by the reference: a sum whole ===== -/
section M93
variable {K : am_K} {I : am_I} {d : Nat} {v : am_V} {w : am_X} {Q : Option Value → am_H → Prop} {T : Nat → Int32} {n p oo z : Nat} {ws : List (Nat × Nat)} {sh : List am_S}
set_option maxRecDepth 100000 in
set_option maxHeartbeats 4000000 in
theorem m_sumSign {c : Int32} (h1 : (onl muL c = true ∨ onl adL c = true) → Q (some (.int (nI (sgK c)))) (sh, v, w)) (h0 : onl muL c = false → onl adL c = false → Q (some (.int (-1))) (sh, v, w)) : am_run K I am_m (d + 1) 161 [.int c] (sh, v, w) 0 0 Q := by
  refine en_X12_sumSign rfl ?_
  intro P hP
  ((repeat' first | refine hP _ ?_ | fail); try dsimp only)
  refine ⟨fun c1 => ?_, fun e => ?_⟩
  rotate_left
  · subst e
    ((repeat' first | refine hP _ ?_ | fail); try dsimp only)
    exact h1 (Or.inr (by decide))
  ((repeat' first | refine hP _ ?_ | fail); try dsimp only)
  refine ⟨fun c2 => ?_, fun e => ?_⟩
  rotate_left
  · subst e
    ((repeat' first | refine hP _ ?_ | fail); try dsimp only)
    exact h1 (Or.inr (by decide))
  ((repeat' first | refine hP _ ?_ | fail); try dsimp only)
  refine ⟨fun c3 => ?_, fun e => ?_⟩
  rotate_left
  · subst e
    ((repeat' first | refine hP _ ?_ | fail); try dsimp only)
    exact h1 (Or.inl (by decide))
  ((repeat' first | refine hP _ ?_ | fail); try dsimp only)
  refine ⟨fun c4 => ?_, fun e => ?_⟩
  rotate_left
  · subst e
    ((repeat' first | refine hP _ ?_ | fail); try dsimp only)
    exact h1 (Or.inl (by decide))
  ((repeat' first | refine hP _ ?_ | fail); try dsimp only)
  refine ⟨fun c5 => ?_, fun e => ?_⟩
  rotate_left
  · subst e
    ((repeat' first | refine hP _ ?_ | fail); try dsimp only)
    exact h1 (Or.inl (by decide))
  ((repeat' first | refine hP _ ?_ | fail); try dsimp only)
  refine h0 (onl_no.mpr ?_) (onl_no.mpr ?_)
  · simp [muL, c3, c4, c5]
  · simp [adL, c1, c2]
set_option maxRecDepth 100000 in
set_option maxHeartbeats 4000000 in
theorem m_factOf {c : Int32} (h1 : onl ltL c = true → Q (some (.int (nI (ltI c)))) (sh, v, w)) (h0 : onl ltL c = false → Q (some (.int (-1))) (sh, v, w)) : am_run K I am_m (d + 1) 160 [.int c] (sh, v, w) 0 0 Q := by
  refine en_X12_factOf rfl ?_
  intro P hP
  ((repeat' first | refine hP _ ?_ | fail); try dsimp only)
  refine ⟨⟨fun e => ?_, fun e => ?_, fun e => ?_, fun e => ?_, fun e => ?_, fun e => ?_, fun e => ?_, fun e => ?_, fun e => ?_, fun e => ?_, fun e => ?_, fun e => ?_, fun e => ?_, fun e => ?_, fun e => ?_, fun e => ?_, fun e => ?_, fun e => ?_, fun e => ?_, fun e => ?_, fun e => ?_, fun e => ?_, trivial⟩, fun e => ?_⟩
  · have e : c = 97 := e
    subst e
    ((repeat' first | refine hP _ ?_ | fail); try dsimp only)
    exact h1 (by decide)
  · have e : c = 98 := e
    subst e
    ((repeat' first | refine hP _ ?_ | fail); try dsimp only)
    exact h1 (by decide)
  · have e : c = 99 := e
    subst e
    ((repeat' first | refine hP _ ?_ | fail); try dsimp only)
    exact h1 (by decide)
  · have e : c = 100 := e
    subst e
    ((repeat' first | refine hP _ ?_ | fail); try dsimp only)
    exact h0 (by decide)
  · have e : c = 101 := e
    subst e
    ((repeat' first | refine hP _ ?_ | fail); try dsimp only)
    exact h0 (by decide)
  · have e : c = 102 := e
    subst e
    ((repeat' first | refine hP _ ?_ | fail); try dsimp only)
    exact h0 (by decide)
  · have e : c = 103 := e
    subst e
    ((repeat' first | refine hP _ ?_ | fail); try dsimp only)
    exact h0 (by decide)
  · have e : c = 104 := e
    subst e
    ((repeat' first | refine hP _ ?_ | fail); try dsimp only)
    exact h0 (by decide)
  · have e : c = 105 := e
    subst e
    ((repeat' first | refine hP _ ?_ | fail); try dsimp only)
    exact h0 (by decide)
  · have e : c = 106 := e
    subst e
    ((repeat' first | refine hP _ ?_ | fail); try dsimp only)
    exact h0 (by decide)
  · have e : c = 107 := e
    subst e
    ((repeat' first | refine hP _ ?_ | fail); try dsimp only)
    exact h1 (by decide)
  · have e : c = 108 := e
    subst e
    ((repeat' first | refine hP _ ?_ | fail); try dsimp only)
    exact h0 (by decide)
  · have e : c = 109 := e
    subst e
    ((repeat' first | refine hP _ ?_ | fail); try dsimp only)
    exact h0 (by decide)
  · have e : c = 110 := e
    subst e
    ((repeat' first | refine hP _ ?_ | fail); try dsimp only)
    exact h0 (by decide)
  · have e : c = 111 := e
    subst e
    ((repeat' first | refine hP _ ?_ | fail); try dsimp only)
    exact h1 (by decide)
  · have e : c = 112 := e
    subst e
    ((repeat' first | refine hP _ ?_ | fail); try dsimp only)
    exact h1 (by decide)
  · have e : c = 113 := e
    subst e
    ((repeat' first | refine hP _ ?_ | fail); try dsimp only)
    exact h1 (by decide)
  · have e : c = 114 := e
    subst e
    ((repeat' first | refine hP _ ?_ | fail); try dsimp only)
    exact h1 (by decide)
  · have e : c = 115 := e
    subst e
    ((repeat' first | refine hP _ ?_ | fail); try dsimp only)
    exact h0 (by decide)
  · have e : c = 116 := e
    subst e
    ((repeat' first | refine hP _ ?_ | fail); try dsimp only)
    exact h1 (by decide)
  · have e : c = 117 := e
    subst e
    ((repeat' first | refine hP _ ?_ | fail); try dsimp only)
    exact h0 (by decide)
  · have e : c = 118 := e
    subst e
    ((repeat' first | refine hP _ ?_ | fail); try dsimp only)
    exact h1 (by decide)
  · ((repeat' first | refine hP _ ?_ | fail); try dsimp only)
    refine h0 ?_
    cases hq : onl ltL c
    · rfl
    · exfalso
      rw [onl_iff] at hq
      simp [ltL] at hq
      rcases hq with rfl | rfl | rfl | rfl | rfl | rfl | rfl | rfl | rfl | rfl <;> exact absurd e (by decide)
set_option maxRecDepth 100000 in
set_option maxHeartbeats 4000000 in
theorem m_number5 (hr : rdR v T n p) (hd : onl dgL (cc T n p) = true) (hE : ∀ (e : Nat × Nat) (v' : am_V), numF T n 5 p = .error e → frN v v' → v' 62 9 = flt e → Q (some (.int 0)) (am_sh, v', w)) (hO : ∀ (p1 x : Nat) (v' : am_V), numF T n 5 p = .ok (p1, x) → frN v v' → v' 62 7 = nI p1 → p1 ≤ n → v' 62 10 = nI x → Q (some (.int 1)) (am_sh, v', w)) : am_run K I am_m (d + 3) 156 [.ref 62] (am_sh, v, w) 0 0 Q := by
  have hp := hr.2.2.2
  have hnd := nd_le T n 5 p hp
  have h0 : ¬ nd T n 5 p = 0 := by
    unfold nd
    rw [if_pos hd]
    omega
  unfold numF at hE hO
  rw [if_neg h0] at hE hO
  refine en_X12_readsNumber rfl ?_
  intro P hP
  ((iterate 6 refine hP _ ?_); try dsimp only)
  rw [hr.1.1]
  refine lp_num_5 (Or.inr ⟨rfl, rfl, rfl, rfl⟩) hP hr 5 0 0 (am_up v 62 10 0) (by omega) (frN.rf.up (by omega) _) (by rw [am_up_eq, if_neg (by decide)]; exact hr.1.1) hp (by rw [am_up_eq, if_pos ⟨rfl, rfl⟩]; rfl) (fun g u' f' e => ?_) (fun g u' f' e7 e10 => ?_)
  · rw [Nat.add_zero] at g e
    rw [if_pos g] at hE
    exact hE _ u' rfl f' e
  · rw [Nat.add_zero] at g e7 e10
    rw [if_neg (by rw [g]; decide)] at hO
    exact hO _ _ u' rfl f' e7 hnd e10
end M93
def pl (x : Option Nat) : List (Nat × Nat) := match x with
  | none => []
  | some k => [(k, 0)]
def isMu (x : Option Nat) : Prop := ∀ k, x = some k → 4 ≤ k ∧ k ≤ 6
def isAd (x : Option Nat) : Prop := ∀ k, x = some k → 2 ≤ k ∧ k ≤ 3
def nomu (ws : List (Nat × Nat)) : Prop := ∀ x l, ws = x :: l → ¬ (4 ≤ x.1 ∧ x.1 ≤ 6)
def nosu (ws : List (Nat × Nat)) : Prop := ∀ x l, ws = x :: l → ¬ (2 ≤ x.1 ∧ x.1 ≤ 6)
theorem cl_f {pm : Option Nat} {ws : List (Nat × Nat)} (h1 : isMu pm) (h2 : nomu ws) : clP false (pl pm ++ ws) = (pl pm, ws) := by
  have base : clP false ws = ([], ws) := by
    cases ws with
    | nil => rfl
    | cons x l =>
      have := h2 x l rfl
      exact if_neg (fun q => q.elim this (fun z => absurd z.1 (by decide)))
  cases pm with
  | none => exact base
  | some k =>
    show clP false ((k, 0) :: ws) = _
    unfold clP
    rw [if_pos (Or.inl (h1 k rfl)), base]
    rfl
theorem cl_t {pm pa : Option Nat} {ws : List (Nat × Nat)} (h1 : isMu pm) (h2 : isAd pa) (h3 : nosu ws) : clP true (pl pm ++ (pl pa ++ ws)) = (pl pm ++ pl pa, ws) := by
  have base : clP true ws = ([], ws) := by
    cases ws with
    | nil => rfl
    | cons x l =>
      have := h3 x l rfl
      exact if_neg (fun q => by
        rcases q with q | q
        · omega
        · omega)
  have b2 : clP true (pl pa ++ ws) = (pl pa, ws) := by
    cases pa with
    | none => exact base
    | some k =>
      show clP true ((k, 0) :: ws) = _
      have := h2 k rfl
      unfold clP
      rw [if_pos (Or.inr ⟨rfl, by show k = 2 ∨ k = 3; omega⟩), base]
      rfl
  cases pm with
  | none => exact b2
  | some k =>
    show clP true ((k, 0) :: (pl pa ++ ws)) = _
    unfold clP
    rw [if_pos (Or.inl (h1 k rfl)), b2]
    rfl
/-- the loop's head in a sum; a factor called there -/
def LHd (P : am_C → Prop) (w : am_X) (b : Nat) (v : am_V) : Prop := ∀ l2 : Option Value, P (cd_X12_readsSum.drop 8, [some (.ref 62), some (.int (nI b)), l2], [], (am_sh, v, w), 0, 0)
def CFd (K : am_K) (I : am_I) (d : Nat) (P : am_C → Prop) (Q : Option Value → am_H → Prop) (w : am_X) (b : Nat) (v : am_V) : Prop := ∀ Qf : Option Value → am_H → Prop, (∀ v', LHd P w b v' → Qf (some (.int 1)) (am_sh, v', w)) → (∀ v', Q (some (.int 0)) (am_sh, v', w) → Qf (some (.int 0)) (am_sh, v', w)) → am_run K I am_m (d + 5) 163 [.ref 62] (am_sh, v, w) 0 0 Qf
section M93b
variable {K : am_K} {I : am_I} {d b : Nat} {v : am_V} {w : am_X} {Q : Option Value → am_H → Prop} {P : am_C → Prop} {T : Nat → Int32} {n p oo z : Nat} {ws bs : List (Nat × Nat)}
set_option maxRecDepth 100000 in
set_option maxHeartbeats 4000000 in
theorem LH_sign (hP : ∀ c, am_step K I (am_run K I am_m (d + 5)) cd_X12_readsSum 0 0 Q P c → P c) (hpre : rs_pre v T n p oo z ws) {all : Bool} (hs : (all = false ∧ onl muL (cc T n p) = true) ∨ (all = true ∧ onl adL (cc T n p) = true)) (h : ∀ v2, rsf v v2 z → rs_pre v2 T n (p + 1) oo (z + (clP all ws).1.length) ((sgK (cc T n p), 0) :: (clP all ws).2) → cdR (v2 67) z (clP all ws).1 → CFd K I d P Q w b v2) : LHd P w b v := by
  intro l2
  have hn := hpre.1.2.2.1
  have hpn : p < n := hs.elim (fun q => onl_lt mu_m1 q.2) (fun q => onl_lt ad_m1 q.2)
  have hk : (all = false → 4 ≤ sgK (cc T n p) ∧ sgK (cc T n p) ≤ 6) ∧ (all = true → 2 ≤ sgK (cc T n p) ∧ sgK (cc T n p) ≤ 3) := by
    rcases hs with ⟨rfl, q⟩ | ⟨rfl, q⟩
    · have := mu_k q
      exact ⟨fun _ => ⟨this.1, this.2.1⟩, fun z => absurd z (by decide)⟩
    · have := ad_k q
      exact ⟨fun z => absurd z (by decide), fun _ => ⟨this.1, this.2.1⟩⟩
  have hk2 : 2 ≤ sgK (cc T n p) ∧ sgK (cc T n p) ≤ 6 := by
    cases all
    · have := hk.1 rfl
      omega
    · have := hk.2 rfl
      omega
  ((repeat' first | refine hP _ ?_ | fail); try dsimp only)
  refine m_here hpre.1 ?_
  ((repeat' first | refine hP _ ?_ | fail); try dsimp only)
  refine m_sumSign (fun _ => ?_) (fun q1 q2 => ?_)
  rotate_left
  · rcases hs with ⟨-, q⟩ | ⟨-, q⟩
    · exact absurd (q1.symm.trans q) (by decide)
    · exact absurd (q2.symm.trans q) (by decide)
  ((repeat' first | refine hP _ ?_ | fail); try dsimp only)
  refine ⟨fun c => absurd c (nI_nm1 (by omega)).1, fun _ => ?_⟩
  -- behind the closing
  have go : P (cd_X12_readsSum.drop 22, [some (.ref 62), some (.int (nI b)), some (.int (nI (sgK (cc T n p))))], [.int (b2i all), .ref 62], (am_sh, v, w), 0, 0) := by
    ((repeat' first | refine hP _ ?_ | fail); try dsimp only)
    refine m_closes ws z v _ hpre (fun v1 f1 p1 c1 g1 => ?_)
    have hl := p1.2.2.2.1
    ((repeat' first | refine hP _ ?_ | fail); try dsimp only)
    rw [p1.2.1.2.2, ws_mul0]
    refine ⟨vp_in_nI (by omega) (by omega), ?_⟩
    dsimp only
    rw [nI_clamp (by omega)]
    ((repeat' first | refine hP _ ?_ | fail); try dsimp only)
    rw [am_up_ne _ _ _ (show (62 : Nat) ≠ 68 by decide), p1.2.1.2.2, nI_1, am_up_eq, if_neg (by decide), am_up_ne _ _ _ (show (62 : Nat) ≠ 68 by decide), p1.1.1.1, nI_1]
    have f2 : rsf v (am_up (am_up (am_up v1 68 (clP all ws).2.length (nI (sgK (cc T n p) * 1048576 + 0))) 62 13 (nI ((clP all ws).2.length + 1))) 62 7 (nI (p + 1))) z := ((f1.u68 _ _).u62 (by omega) _).u62 (by omega) _
    refine h _ f2 ⟨p1.1.u ?_ ?_ ?_ hpn, ⟨?_, ?_, ?_⟩, ?_, ⟨?_, ?_, hl.2.2⟩, ?_⟩ (c1.of (fun i _ _ => ?_)) _ (fun v' hL => ?_) (fun v' hQ => ?_)
    · rw [am_up_ne _ _ _ (by decide), am_up_ne _ _ _ (by decide), am_up_ne _ _ _ (by decide)]
    · rw [am_up_eq, if_pos ⟨rfl, rfl⟩]
    · rw [am_up_eq, if_neg (by decide), am_up_eq, if_neg (by decide), am_up_ne _ _ _ (by decide)]
    · rw [am_up_eq, if_neg (by decide), am_up_eq, if_neg (by decide), am_up_ne _ _ _ (by decide)]
      exact p1.2.1.1
    · rw [am_up_eq, if_neg (by decide), am_up_eq, if_neg (by decide), am_up_ne _ _ _ (by decide)]
      exact p1.2.1.2.1
    · rw [am_up_eq, if_neg (by decide), am_up_eq, if_pos ⟨rfl, rfl⟩]
      rfl
    · rw [am_up_ne _ _ _ (show (68 : Nat) ≠ 62 by decide), am_up_ne _ _ _ (show (68 : Nat) ≠ 62 by decide)]
      have := stk_push (u := v1) (k := 68) (x := wsI (sgK (cc T n p), 0)) p1.2.2.1
      rw [List.length_map] at this
      exact this
    · show _ + (wc (clP all ws).2 + _) ≤ p + 1
      split <;> omega
    · rw [List.length_cons]
      omega
    · intro x hx
      rcases List.mem_cons.mp hx with q | q
      · subst q
        exact ⟨by show sgK (cc T n p) < 15; omega, by show 0 < 1000; decide⟩
      · exact p1.2.2.2.2 x q
    · rw [am_up_ne _ _ _ (by decide), am_up_ne _ _ _ (by decide), am_up_ne _ _ _ (by decide)]
    · ((repeat' first | refine hP _ ?_ | fail); try dsimp only)
      refine ⟨fun _ => ?_, fun c => absurd c (by decide)⟩
      ((iterate 1 refine hP _ ?_); try dsimp only)
      exact hL _
    · ((repeat' first | refine hP _ ?_ | fail); try dsimp only)
      refine ⟨fun c => absurd rfl c, fun _ => ?_⟩
      ((repeat' first | refine hP _ ?_ | fail); try dsimp only)
      exact ⟨Or.inl rfl, hQ⟩
  ((repeat' first | refine hP _ ?_ | fail); try dsimp only)
  cases all with
  | false =>
    refine ⟨fun _ => ?_, fun c => absurd (nI_le (a := 4) (b := sgK (cc T n p)) (hk.1 rfl).1 (by omega)) c⟩
    ((iterate 1 refine hP _ ?_); try dsimp only)
    exact go
  | true =>
    refine ⟨fun c => absurd c (nI_ge (b := 4) (by have := hk.2 rfl; omega) (by omega)), fun _ => ?_⟩
    ((iterate 2 refine hP _ ?_); try dsimp only)
    exact go
set_option maxRecDepth 100000 in
set_option maxHeartbeats 4000000 in
theorem LH_none (hP : ∀ c, am_step K I (am_run K I am_m (d + 5)) cd_X12_readsSum 0 0 Q P c → P c) {ext : List (Nat × Nat)} (hpre : rs_pre v T n p oo z (ext ++ bs)) (h1 : onl muL (cc T n p) = false) (h2 : onl adL (cc T n p) = false) (hcl : cc T n p = 93 → ext.any (fun x => x.1 == 14) = true → ∀ v1, rsf v v1 z → rs_pre v1 T n p oo (z + (clP true (ext ++ bs)).1.length) (clP true (ext ++ bs)).2 → cdR (v1 67) z (clP true (ext ++ bs)).1 → 0 < (clP true (ext ++ bs)).2.length → LHd P w bs.length (am_up (am_up (am_up v1 62 13 (v1 62 13 - 1)) 62 11 (v1 62 11 - 1)) 62 7 (v1 62 7 + 1))) (hbad : ¬ cc T n p = 93 → ext.any (fun x => x.1 == 14) = true → ∀ v', rsf v v' z → v' 62 9 = flt (1, p) → Q (some (.int 0)) (am_sh, v', w)) (hend : ext.any (fun x => x.1 == 14) = false → ∀ v1, rsf v v1 z → rs_pre v1 T n p oo (z + (clP true (ext ++ bs)).1.length) (clP true (ext ++ bs)).2 → cdR (v1 67) z (clP true (ext ++ bs)).1 → Q (some (.int 1)) (am_sh, v1, w)) (hpos : ext.any (fun x => x.1 == 14) = true → 0 < (clP true (ext ++ bs)).2.length) : LHd P w bs.length v := by
  intro l2
  have hn := hpre.1.2.2.1
  -- no ] that closes
  have lst : (cc T n p = 93 → ext.any (fun x => x.1 == 14) = false) → P (cd_X12_readsSum.drop 78, [some (.ref 62), some (.int (nI bs.length)), some (.int (-1))], [], (am_sh, v, w), 0, 0) := by
    intro hq
    ((repeat' first | refine hP _ ?_ | fail); try dsimp only)
    refine m_hasOpen hpre ?_
    ((repeat' first | refine hP _ ?_ | fail); try dsimp only)
    cases ha : ext.any (fun x => x.1 == 14) with
    | true =>
      refine ⟨fun c => absurd c (by decide), fun _ => ?_⟩
      ((repeat' first | refine hP _ ?_ | fail); try dsimp only)
      rw [hpre.1.1.1]
      refine m_wrongAt ?_
      ((repeat' first | refine hP _ ?_ | fail); try dsimp only)
      exact ⟨Or.inl rfl, hbad (fun q => absurd (ha.symm.trans (hq q)) (by decide)) ha _ (rsf.rf.u62 (by omega) _) (by rw [am_up_eq, if_pos ⟨rfl, rfl⟩]; rfl)⟩
    | false =>
      refine ⟨fun _ => ?_, fun c => absurd rfl c⟩
      ((repeat' first | refine hP _ ?_ | fail); try dsimp only)
      refine m_closes (all := true) (ext ++ bs) z v _ hpre (fun v1 f1 p1 c1 g1 => ?_)
      ((repeat' first | refine hP _ ?_ | fail); try dsimp only)
      exact ⟨Or.inr rfl, hend ha v1 f1 p1 c1⟩
  ((repeat' first | refine hP _ ?_ | fail); try dsimp only)
  refine m_here hpre.1 ?_
  ((repeat' first | refine hP _ ?_ | fail); try dsimp only)
  refine m_sumSign (fun q => ?_) (fun _ _ => ?_)
  · rcases q with q | q
    · exact absurd (h1.symm.trans q) (by decide)
    · exact absurd (h2.symm.trans q) (by decide)
  ((repeat' first | refine hP _ ?_ | fail); try dsimp only)
  refine ⟨fun _ => ?_, fun c => absurd rfl c⟩
  ((repeat' first | refine hP _ ?_ | fail); try dsimp only)
  refine m_here hpre.1 ?_
  ((repeat' first | refine hP _ ?_ | fail); try dsimp only)
  refine ⟨fun c => lst (fun q => absurd q c), fun c => ?_⟩
  ((repeat' first | refine hP _ ?_ | fail); try dsimp only)
  refine m_hasOpen hpre ?_
  ((repeat' first | refine hP _ ?_ | fail); try dsimp only)
  cases ha : ext.any (fun x => x.1 == 14) with
  | false => exact ⟨fun _ => lst (fun _ => ha), fun c => absurd rfl c⟩
  | true =>
    refine ⟨fun c => absurd c (by decide), fun _ => ?_⟩
    ((repeat' first | refine hP _ ?_ | fail); try dsimp only)
    refine m_closes (all := true) (ext ++ bs) z v _ hpre (fun v1 f1 p1 c1 g1 => ?_)
    ((iterate 20 refine hP _ ?_); try dsimp only)
    have e11 : am_up v1 62 13 (v1 62 13 - 1) 62 11 = v1 62 11 := by rw [am_up_eq, if_neg (by decide)]
    have e7 : am_up (am_up v1 62 13 (v1 62 13 - 1)) 62 11 (v1 62 11 - 1) 62 7 = v1 62 7 := by rw [am_up_eq, if_neg (by decide), am_up_eq, if_neg (by decide)]
    rw [e11, e7]
    exact hcl c ha v1 f1 p1 c1 (hpos ha) _
end M93b
