/-! ===== pairs: moments, act, count ===== -/
theorem tr_mo_le {l : List tr_L} {M M' : Nat → Nat} (h : tr_mo l M) (h' : tr_mo l M') : ∀ k a, M a ≤ k → a < 16 → M a ≤ M' a := by
  intro k
  induction k with
  | zero =>
    intro a hk ha
    omega
  | succ k ih =>
    intro a hk ha
    rcases (h a ha).2.2 with z | ⟨b, hb, z1, z2⟩
    · have := (h' a ha).1.1
      omega
    · have := ih b (by omega) hb
      have := (h' a ha).2.1 b hb z1
      omega
theorem tr_mo_un {l : List tr_L} {M M' : Nat → Nat} (h : tr_mo l M) (h' : tr_mo l M') {a : Nat} (ha : a < 16) : M a = M' a := Nat.le_antisymm (tr_mo_le h h' (M a) a (Nat.le_refl _) ha) (tr_mo_le h' h (M' a) a (Nat.le_refl _) ha)
theorem mbF_congr {x : Int32} {S : Nat → Prop} (hx : tr_set x S) {mo mo' : Nat → Int32} : ∀ j, j ≤ 16 → (∀ b, b < j → S b → mo b = mo' b) → mbF x mo j = mbF x mo' j
  | 0, _, _ => rfl
  | j + 1, hj, h => by
    unfold mbF
    rw [mbF_congr hx j (by omega) (fun b hb => h b (by omega))]
    by_cases c : (x >>> (nI j &&& 31)) &&& 1 = 0
    · rw [if_pos c, if_pos c]
    · rw [if_neg c, if_neg c, h j (by omega) (Classical.byContradiction (fun q => c ((ts_has hx (b := j) (by omega)).mpr q)))]
section M87
variable {K : am_K} {I : am_I} {d : Nat} {v : am_V} {w : am_X} {Q : Option Value → am_H → Prop} {ls : List tr_L}
set_option maxRecDepth 100000 in
set_option maxHeartbeats 4000000 in
theorem m_namesC {S : Nat → Prop} {b : Nat} (hx : tr_set (v 22 4) S) (hb : b < 16) (h1 : S b → Q (some (.int 1)) (am_sh, v, w)) (h0 : ¬ S b → Q (some (.int 0)) (am_sh, v, w)) : am_run K I am_m (d + 1) 89 [.ref 22, .int (nI b)] (am_sh, v, w) 0 0 Q := by
  refine en_X9_names rfl ?_
  intro P hP
  ((repeat' first | refine hP _ ?_ | fail); try dsimp only)
  refine ⟨fun c => ?_, fun c => ?_⟩
  · ((repeat' first | refine hP _ ?_ | fail); try dsimp only)
    exact ⟨Or.inl rfl, h0 ((ts_has hx hb).mp c)⟩
  · ((repeat' first | refine hP _ ?_ | fail); try dsimp only)
    exact ⟨Or.inr rfl, h1 (Classical.byContradiction (fun q => c ((ts_has hx hb).mpr q)))⟩
set_option maxRecDepth 100000 in
set_option maxHeartbeats 4000000 in
theorem m_lastMo {S : Nat → Prop} (hx : tr_set (v 22 4) S) (h : Q (some (.int (mbF (v 22 4) (v 25) 16))) (am_sh, v, w)) : am_run K I am_m (d + 2) 93 [.ref 22] (am_sh, v, w) 0 0 Q := by
  refine en_X9_lastMoment rfl ?_
  intro P hP
  have key : ∀ (f i : Nat), i + f = 16 → P (cd_X9_lastMoment.drop 4, [some (.ref 22), some (.int (mbF (v 22 4) (v 25) i)), some (.int (nI i))], [], (am_sh, v, w), 0, 0) := by
    intro f
    induction f with
    | zero =>
      intro i hi
      have hi : i = 16 := by omega
      subst hi
      ((repeat' first | refine hP _ ?_ | fail); try dsimp only)
      refine ⟨fun _ => ?_, fun c => absurd (nI_le (a := 16) (b := 16) (by omega) (by omega)) c⟩
      ((repeat' first | refine hP _ ?_ | fail); try dsimp only)
      exact h
    | succ f ih =>
      intro i hi
      have e := ih (i + 1) (by omega)
      unfold mbF at e
      ((repeat' first | refine hP _ ?_ | fail); try dsimp only)
      refine ⟨fun c => absurd c (nI_ge (b := 16) (by omega) (by omega)), fun _ => ?_⟩
      ((repeat' first | refine hP _ ?_ | fail); try dsimp only)
      refine m_namesC hx (by omega) (fun t => ?_) (fun t => ?_)
      · rw [if_neg (fun z => (ts_has hx (b := i) (by omega)).mp z t)] at e
        ((repeat' first | refine hP _ ?_ | fail); try dsimp only)
        refine ⟨fun c => absurd c (by decide), fun _ => ?_⟩
        ((repeat' first | refine hP _ ?_ | fail); try dsimp only)
        refine ⟨vp_in_nI (by omega) (by omega), ?_⟩
        dsimp only
        rw [nI_clamp (by omega)]
        ((iterate 4 refine hP _ ?_); try dsimp only)
        rw [nI_1]
        exact e
      · rw [if_pos ((ts_has hx (b := i) (by omega)).mpr t)] at e
        ((repeat' first | refine hP _ ?_ | fail); try dsimp only)
        refine ⟨fun _ => ?_, fun c => absurd rfl c⟩
        ((iterate 2 refine hP _ ?_); try dsimp only)
        rw [nI_1]
        exact e
  ((iterate 4 refine hP _ ?_); try dsimp only)
  exact key 16 0 rfl
set_option maxRecDepth 100000 in
set_option maxHeartbeats 4000000 in
theorem m_trGet_0 {a : Nat} (ha : a < 16) (h : Q (some (.int (v (23 + 0) a))) (am_sh, v, w)) : am_run K I am_m (d + 1) 90 [.ref 22, .int (nI a)] (am_sh, v, w) 0 0 Q := by
  refine en_X9_atOnceWith rfl ?_
  intro P hP
  ((repeat' first | refine hP _ ?_ | fail); try dsimp only)
  refine ⟨fun c => absurd c (nI_pos (by omega)), fun _ => ?_⟩
  ((repeat' first | refine hP _ ?_ | fail); try dsimp only)
  refine ⟨fun c => absurd c (nI_ge (b := 16) (by omega) (by omega)), fun _ => ?_⟩
  ((repeat' first | refine hP _ ?_ | fail); try dsimp only)
  refine ⟨vp_in_nI (by omega) (by omega), ?_⟩
  ((repeat' first | refine hP _ ?_ | fail); try dsimp only)
  rw [nI_clamp (by omega)]
  exact h
set_option maxRecDepth 100000 in
set_option maxHeartbeats 4000000 in
theorem m_trGet_1 {a : Nat} (ha : a < 16) (h : Q (some (.int (v (23 + 1) a))) (am_sh, v, w)) : am_run K I am_m (d + 1) 91 [.ref 22, .int (nI a)] (am_sh, v, w) 0 0 Q := by
  refine en_X9_aheadOf rfl ?_
  intro P hP
  ((repeat' first | refine hP _ ?_ | fail); try dsimp only)
  refine ⟨fun c => absurd c (nI_pos (by omega)), fun _ => ?_⟩
  ((repeat' first | refine hP _ ?_ | fail); try dsimp only)
  refine ⟨fun c => absurd c (nI_ge (b := 16) (by omega) (by omega)), fun _ => ?_⟩
  ((repeat' first | refine hP _ ?_ | fail); try dsimp only)
  refine ⟨vp_in_nI (by omega) (by omega), ?_⟩
  ((repeat' first | refine hP _ ?_ | fail); try dsimp only)
  rw [nI_clamp (by omega)]
  exact h
set_option maxRecDepth 100000 in
set_option maxHeartbeats 4000000 in
theorem m_trGet_2 {a : Nat} (ha : a < 16) (h : Q (some (.int (v (23 + 2) a))) (am_sh, v, w)) : am_run K I am_m (d + 1) 92 [.ref 22, .int (nI a)] (am_sh, v, w) 0 0 Q := by
  refine en_X9_momentOf rfl ?_
  intro P hP
  ((repeat' first | refine hP _ ?_ | fail); try dsimp only)
  refine ⟨fun c => absurd c (nI_pos (by omega)), fun _ => ?_⟩
  ((repeat' first | refine hP _ ?_ | fail); try dsimp only)
  refine ⟨fun c => absurd c (nI_ge (b := 16) (by omega) (by omega)), fun _ => ?_⟩
  ((repeat' first | refine hP _ ?_ | fail); try dsimp only)
  refine ⟨vp_in_nI (by omega) (by omega), ?_⟩
  ((repeat' first | refine hP _ ?_ | fail); try dsimp only)
  rw [nI_clamp (by omega)]
  exact h
set_option maxRecDepth 100000 in
set_option maxHeartbeats 4000000 in
theorem lp_most {P : am_C → Prop} {a wr : Int32} {x : Int32} (hN : ls.length ≤ 24) (h48 : v 62 48 = nI ls.length) (hln : tr_ln v ls) (hx : tr_set x (tr_nm ls)) (hP : ∀ c, am_step K I (am_run K I am_m (d + 3)) cd_X12_moments 0 0 Q P c → P c) (h : P (cd_X12_moments.drop 51, [some (.ref 62), some (.int a), some (.int wr), some (.int (mbF x (v 92) 16)), some (.int (nI 16))], [], (am_sh, v, w), 0, 0)) : P (cd_X12_moments.drop 30, [some (.ref 62), some (.int a), some (.int wr), none, none], [], (am_sh, v, w), 0, 0) := by
  have key : ∀ (f i : Nat), i + f = 16 → P (cd_X12_moments.drop 34, [some (.ref 62), some (.int a), some (.int wr), some (.int (mbF x (v 92) i)), some (.int (nI i))], [], (am_sh, v, w), 0, 0) := by
    intro f
    induction f with
    | zero =>
      intro i hi
      have hi : i = 16 := by omega
      subst hi
      ((repeat' first | refine hP _ ?_ | fail); try dsimp only)
      refine ⟨fun _ => ?_, fun c => absurd (nI_le (a := 16) (b := 16) (by omega) (by omega)) c⟩
      exact h
    | succ f ih =>
      intro i hi
      have e := ih (i + 1) (by omega)
      unfold mbF at e
      ((repeat' first | refine hP _ ?_ | fail); try dsimp only)
      refine ⟨fun c => absurd c (nI_ge (b := 16) (by omega) (by omega)), fun _ => ?_⟩
      ((repeat' first | refine hP _ ?_ | fail); try dsimp only)
      refine m_named hN h48 hln (fun y hy => ?_)
      have hxy : y = x := ts_ext hy hx
      subst hxy
      ((repeat' first | refine hP _ ?_ | fail); try dsimp only)
      refine m_has1 hy (by omega) (fun t => ?_) (fun t => ?_)
      · rw [if_neg (fun z => (ts_has hy (b := i) (by omega)).mp z t)] at e
        ((repeat' first | refine hP _ ?_ | fail); try dsimp only)
        refine ⟨fun c => absurd c (by decide), fun _ => ?_⟩
        ((repeat' first | refine hP _ ?_ | fail); try dsimp only)
        refine ⟨vp_in_nI (by omega) (by omega), ?_⟩
        ((repeat' first | refine hP _ ?_ | fail); try dsimp only)
        rw [nI_clamp (by omega)]
        refine m_X12_max ?_
        rw [f_mx2]
        ((iterate 3 refine hP _ ?_); try dsimp only)
        rw [nI_1]
        exact e
      · rw [if_pos ((ts_has hy (b := i) (by omega)).mpr t)] at e
        ((repeat' first | refine hP _ ?_ | fail); try dsimp only)
        refine ⟨fun _ => ?_, fun c => absurd rfl c⟩
        ((iterate 2 refine hP _ ?_); try dsimp only)
        rw [nI_1]
        exact e
  ((iterate 4 refine hP _ ?_); try dsimp only)
  exact key 16 0 rfl
end M87
theorem nI_nm1 {k : Nat} (h : k < 1000) : ¬ nI k = -1 ∧ ¬ nI k = -2 := by
  constructor
  · intro q
    have := congrArg Int32.toInt q
    rw [nI_toInt (by omega), show (-1 : Int32).toInt = -1 from rfl] at this
    omega
  · intro q
    have := congrArg Int32.toInt q
    rw [nI_toInt (by omega), show (-2 : Int32).toInt = -2 from rfl] at this
    omega
theorem INV.s92 {v v' : am_V} (hI : INV v) (h : ∀ c, c ≠ 92 → v' c = v c) : INV v' := hI.scr (fun k hk => h k (by revert k; decide)) (fun j _ => by rw [h 62 (by decide)]) (h 1 (by decide)) (h 2 (by decide)) (h 66 (by decide))
set_option maxRecDepth 100000 in
set_option maxHeartbeats 4000000 in
theorem pr_act {L : Nat} {xs : Nat → Int32} (a b : Int32) : am_pair L xs 117 208 [.int a, .int b] := by
  intro d v w Q hI h
  obtain ⟨ls, hN, hlines, h48, hln, hnm, hcls⟩ := hI.2.2.2.2.2
  refine en_X11_act rfl ?_
  intro P hP
  ((repeat' first | refine hP _ ?_ | fail); try dsimp only)
  refine m_X11_outside (fun c => ?_) (fun c1 c2 => ?_)
  · ((repeat' first | refine hP _ ?_ | refine ⟨fun c1 => absurd c1 (by decide), fun _ => ?_⟩ | refine ⟨fun _ => ?_, fun c1 => absurd c1 (by decide)⟩ | refine ⟨am_vin rfl, ?_⟩ | refine ⟨fun c1 => ?_, fun c1 => ?_⟩ | refine ⟨Or.inr rfl, ?_⟩ | refine ⟨Or.inl rfl, ?_⟩ | fail); all_goals (try dsimp only at *))
    refine h (-1) v w (fun Q2 h2 => ?_)
    refine en_X12_act rfl ?_
    intro P2 hP2
    ((repeat' first | refine hP2 _ ?_ | fail); try dsimp only)
    refine m_X12_in0 c ?_
    ((repeat' first | refine hP2 _ ?_ | refine ⟨fun c1 => absurd c1 (by decide), fun _ => ?_⟩ | refine ⟨fun _ => ?_, fun c1 => absurd c1 (by decide)⟩ | refine ⟨am_vin rfl, ?_⟩ | refine ⟨fun c1 => ?_, fun c1 => ?_⟩ | refine ⟨Or.inr rfl, ?_⟩ | refine ⟨Or.inl rfl, ?_⟩ | fail); all_goals (try dsimp only at *))
    exact h2 v w hI
  obtain ⟨n, hn, rfl⟩ := am_nat c1 c2 (n := 15) rfl
  ((repeat' first | refine hP _ ?_ | fail); try dsimp only)
  refine ⟨fun c => absurd rfl c, fun _ => ?_⟩
  ((repeat' first | refine hP _ ?_ | fail); try dsimp only)
  refine m_X11_outside (fun c => ?_) (fun k1 k2 => ?_)
  · ((repeat' first | refine hP _ ?_ | refine ⟨fun c1 => absurd c1 (by decide), fun _ => ?_⟩ | refine ⟨fun _ => ?_, fun c1 => absurd c1 (by decide)⟩ | refine ⟨am_vin rfl, ?_⟩ | refine ⟨fun c1 => ?_, fun c1 => ?_⟩ | refine ⟨Or.inr rfl, ?_⟩ | refine ⟨Or.inl rfl, ?_⟩ | fail); all_goals (try dsimp only at *))
    refine h (-1) v w (fun Q2 h2 => ?_)
    refine en_X12_act rfl ?_
    intro P2 hP2
    ((repeat' first | refine hP2 _ ?_ | fail); try dsimp only)
    refine m_X12_in1 c1 c2 ?_
    ((repeat' first | refine hP2 _ ?_ | fail); try dsimp only)
    refine ⟨fun c => absurd c (by decide), fun _ => ?_⟩
    ((repeat' first | refine hP2 _ ?_ | fail); try dsimp only)
    refine m_X12_in0 c ?_
    ((repeat' first | refine hP2 _ ?_ | refine ⟨fun c1 => absurd c1 (by decide), fun _ => ?_⟩ | refine ⟨fun _ => ?_, fun c1 => absurd c1 (by decide)⟩ | refine ⟨am_vin rfl, ?_⟩ | refine ⟨fun c1 => ?_, fun c1 => ?_⟩ | refine ⟨Or.inr rfl, ?_⟩ | refine ⟨Or.inl rfl, ?_⟩ | fail); all_goals (try dsimp only at *))
    exact h2 v w hI
  -- the reference, up to the contradiction
  have hr : ∀ (Q2 : Option Value → am_H → Prop), (∀ k, k < ls.length → tr_con (ls.take (k + 1)) → ∀ v2, INV v2 → Q2 (some (.int (-3))) (am_sh, v2, w)) → (¬ tr_con ls → ∀ (v2 : am_V) (P2 : am_C → Prop), (∀ c, c ≠ 92 → v2 c = v c) → (∀ q, am_step (am_kc L xs) am_idx (am_run (am_kc L xs) am_idx am_m (d + 49)) cd_X12_act 0 0 Q2 P2 q → P2 q) → P2 (cd_X12_act.drop 18, [some (.ref 62), some (.int (nI n)), some (.int b)], [], (am_sh, v2, w), 0, 0)) → am_run (am_kc L xs) am_idx am_m (d + 50) 208 [.ref 62, .int (nI n), .int b] (am_sh, v, w) 0 0 Q2 := by
    intro Q2 e1 e2
    refine en_X12_act rfl ?_
    intro P2 hP2
    ((repeat' first | refine hP2 _ ?_ | fail); try dsimp only)
    refine m_X12_in1 c1 c2 ?_
    ((repeat' first | refine hP2 _ ?_ | fail); try dsimp only)
    refine ⟨fun c => absurd c (by decide), fun _ => ?_⟩
    ((repeat' first | refine hP2 _ ?_ | fail); try dsimp only)
    refine m_X12_in1 k1 k2 ?_
    ((repeat' first | refine hP2 _ ?_ | fail); try dsimp only)
    refine ⟨fun _ => ?_, fun c => absurd c (by decide)⟩
    ((repeat' first | refine hP2 _ ?_ | fail); try dsimp only)
    refine m_contr hN h48 hln (fun nc v2 f2 => ?_) (fun k hk cn _ v2 f2 => ?_)
    · ((repeat' first | refine hP2 _ ?_ | fail); try dsimp only)
      refine ⟨fun _ => ?_, fun c => absurd rfl c⟩
      exact e2 nc v2 P2 f2 hP2
    · ((repeat' first | refine hP2 _ ?_ | fail); try dsimp only)
      refine ⟨fun c => absurd c (nI_nm1 (by omega)).2, fun _ => ?_⟩
      ((repeat' first | refine hP2 _ ?_ | fail); try dsimp only)
      exact e1 k hk cn v2 (hI.s92 f2)
  ((repeat' first | refine hP _ ?_ | fail); try dsimp only)
  refine ⟨fun _ => ?_, fun c => absurd rfl c⟩
  ((repeat' first | refine hP _ ?_ | fail); try dsimp only)
  rcases hcls with ⟨e5, nc, hk⟩ | ⟨k, hkl, e5, cn, _⟩
  rotate_left
  · rw [e5]
    refine ⟨fun c => absurd c (nI_nm1 (by omega)).1, fun _ => ?_⟩
    ((repeat' first | refine hP _ ?_ | fail); try dsimp only)
    refine h (-3) v w (fun Q2 h2 => ?_)
    exact hr Q2 (fun _ _ _ v2 i2 => h2 v2 w i2) (fun nc => absurd (tr_con_mono (fun l hl => List.mem_of_mem_take hl) cn) nc)
  · rw [e5]
    have nope : ∀ k, tr_con (ls.take k) → False := fun k q => nc (tr_con_mono (fun l hl => List.mem_of_mem_take hl) q)
    refine ⟨fun _ => ?_, fun c => absurd rfl c⟩
    ((repeat' first | refine hP _ ?_ | fail); try dsimp only)
    refine m_namesC hnm (by omega) (fun t => ?_) (fun t => ?_)
    rotate_left
    · ((repeat' first | refine hP _ ?_ | fail); try dsimp only)
      refine ⟨fun c => absurd rfl c, fun _ => ?_⟩
      ((repeat' first | refine hP _ ?_ | fail); try dsimp only)
      refine h (-2) v w (fun Q2 h2 => hr Q2 (fun k _ q => (nope _ q).elim) (fun _ v2 P2 f2 hP2 => ?_))
      have ln2 := tr_ln_o hln f2
      have g48 : v2 62 48 = nI ls.length := by rw [f2 62 (by decide)]; exact h48
      ((repeat' first | refine hP2 _ ?_ | fail); try dsimp only)
      refine m_named hN g48 ln2 (fun x hx => ?_)
      ((repeat' first | refine hP2 _ ?_ | fail); try dsimp only)
      refine m_has1 hx (by omega) (fun z => absurd z t) (fun _ => ?_)
      ((repeat' first | refine hP2 _ ?_ | fail); try dsimp only)
      refine ⟨fun c => absurd rfl c, fun _ => ?_⟩
      ((repeat' first | refine hP2 _ ?_ | fail); try dsimp only)
      exact h2 v2 w (hI.s92 f2)
    · have hne : ¬ ls = [] := by
        rintro rfl
        obtain ⟨p, q, e, g, _⟩ := t
        exact absurd g (by simp)
      obtain ⟨sets, -⟩ := hk.resolve_left hne
      ((repeat' first | refine hP _ ?_ | fail); try dsimp only)
      refine ⟨fun _ => ?_, fun c => absurd c (by decide)⟩
      ((repeat' first | refine hP _ ?_ | fail); try dsimp only)
      have ref : ∀ (Q2 : Option Value → am_H → Prop), (∀ (v2 : am_V) (P2 : am_C → Prop), (∀ c, c ≠ 92 → v2 c = v c) → (∀ q, am_step (am_kc L xs) am_idx (am_run (am_kc L xs) am_idx am_m (d + 49)) cd_X12_act 0 0 Q2 P2 q → P2 q) → P2 (cd_X12_act.drop 25, [some (.ref 62), some (.int (nI n)), some (.int b)], [], (am_sh, v2, w), 0, 0)) → am_run (am_kc L xs) am_idx am_m (d + 50) 208 [.ref 62, .int (nI n), .int b] (am_sh, v, w) 0 0 Q2 := by
        intro Q2 e2
        refine hr Q2 (fun k _ q => (nope _ q).elim) (fun _ v2 P2 f2 hP2 => ?_)
        have ln2 := tr_ln_o hln f2
        have g48 : v2 62 48 = nI ls.length := by rw [f2 62 (by decide)]; exact h48
        ((repeat' first | refine hP2 _ ?_ | fail); try dsimp only)
        refine m_named hN g48 ln2 (fun x hx => ?_)
        ((repeat' first | refine hP2 _ ?_ | fail); try dsimp only)
        refine m_has1 hx (by omega) (fun _ => ?_) (fun z => absurd t z)
        ((repeat' first | refine hP2 _ ?_ | fail); try dsimp only)
        refine ⟨fun _ => ?_, fun c => absurd c (by decide)⟩
        exact e2 v2 P2 f2 hP2
      refine ⟨fun c => ?_, fun c => ?_⟩
      · ((repeat' first | refine hP _ ?_ | fail); try dsimp only)
        refine m_trGet_1 (by omega) ?_
        ((repeat' first | refine hP _ ?_ | fail); try dsimp only)
        refine h _ v w (fun Q2 h2 => ref Q2 (fun v2 P2 f2 hP2 => ?_))
        have ln2 := tr_ln_o hln f2
        have g48 : v2 62 48 = nI ls.length := by rw [f2 62 (by decide)]; exact h48
        ((repeat' first | refine hP2 _ ?_ | fail); try dsimp only)
        refine ⟨fun _ => ?_, fun z => absurd z c⟩
        ((repeat' first | refine hP2 _ ?_ | fail); try dsimp only)
        refine m_aheadR hN g48 ln2 nc (by omega) (fun x hx => ?_)
        ((repeat' first | refine hP2 _ ?_ | fail); try dsimp only)
        rw [ts_ext hx (sets n (by omega)).2]
        exact h2 v2 w (hI.s92 f2)
      · ((repeat' first | refine hP _ ?_ | fail); try dsimp only)
        refine m_trGet_0 (by omega) ?_
        ((repeat' first | refine hP _ ?_ | fail); try dsimp only)
        refine h _ v w (fun Q2 h2 => ref Q2 (fun v2 P2 f2 hP2 => ?_))
        have ln2 := tr_ln_o hln f2
        have g48 : v2 62 48 = nI ls.length := by rw [f2 62 (by decide)]; exact h48
        ((repeat' first | refine hP2 _ ?_ | fail); try dsimp only)
        refine ⟨fun z => absurd c z, fun _ => ?_⟩
        ((repeat' first | refine hP2 _ ?_ | fail); try dsimp only)
        refine m_atOnceR hN g48 ln2 (by omega) (fun x hx => ?_)
        ((repeat' first | refine hP2 _ ?_ | fail); try dsimp only)
        rw [ts_ext hx (sets n (by omega)).1]
        exact h2 v2 w (hI.s92 f2)
set_option maxRecDepth 100000 in
set_option maxHeartbeats 4000000 in
theorem pr_moments {L : Nat} {xs : Nat → Int32} (a : Int32) : am_pair L xs 116 205 [.int a] := by
  intro d v w Q hI h
  obtain ⟨ls, hN, hlines, h48, hln, hnm, hcls⟩ := hI.2.2.2.2.2
  have nope : ¬ tr_con ls → ∀ k, tr_con (ls.take k) → False := fun nc k q => nc (tr_con_mono (fun l hl => List.mem_of_mem_take hl) q)
  -- the reference, up to the contradiction
  have hr : ((0 ≤ a ∧ a ≤ 15) ∨ (100 ≤ a ∧ a ≤ 101)) → ∀ (Q2 : Option Value → am_H → Prop), (∀ k, k < ls.length → tr_con (ls.take (k + 1)) → ¬ tr_con (ls.take k) → ∀ (v2 : am_V) (P2 : am_C → Prop), (∀ c, c ≠ 92 → v2 c = v c) → (∀ q, am_step (am_kc L xs) am_idx (am_run (am_kc L xs) am_idx am_m (d + 49)) cd_X12_moments 0 0 Q2 P2 q → P2 q) → P2 (cd_X12_moments.drop 15, [some (.ref 62), some (.int a), some (.int (nI k)), none, none], [], (am_sh, v2, w), 0, 0)) → (¬ tr_con ls → ∀ (v2 : am_V) (P2 : am_C → Prop), (∀ c, c ≠ 92 → v2 c = v c) → (∀ q, am_step (am_kc L xs) am_idx (am_run (am_kc L xs) am_idx am_m (d + 49)) cd_X12_moments 0 0 Q2 P2 q → P2 q) → P2 (cd_X12_moments.drop 15, [some (.ref 62), some (.int a), some (.int (-2)), none, none], [], (am_sh, v2, w), 0, 0)) → am_run (am_kc L xs) am_idx am_m (d + 50) 205 [.ref 62, .int a] (am_sh, v, w) 0 0 Q2 := by
    intro ha Q2 e1 e2
    refine en_X12_moments rfl ?_
    intro P2 hP2
    have go : P2 (cd_X12_moments.drop 12, [some (.ref 62), some (.int a), none, none, none], [], (am_sh, v, w), 0, 0) := by
      ((repeat' first | refine hP2 _ ?_ | fail); try dsimp only)
      refine m_contr hN h48 hln (fun nc v2 f2 => ?_) (fun k hk cn cn0 v2 f2 => ?_)
      · ((iterate 1 refine hP2 _ ?_); try dsimp only)
        exact e2 nc v2 P2 f2 hP2
      · ((iterate 1 refine hP2 _ ?_); try dsimp only)
        exact e1 k hk cn cn0 v2 P2 f2 hP2
    ((repeat' first | refine hP2 _ ?_ | fail); try dsimp only)
    refine m_X12_in (fun i1 i2 => ?_) (fun i0 => ?_)
    · ((repeat' first | refine hP2 _ ?_ | fail); try dsimp only)
      exact ⟨fun _ => go, fun c => absurd c (by decide)⟩
    · ((repeat' first | refine hP2 _ ?_ | fail); try dsimp only)
      refine ⟨fun c => absurd rfl c, fun _ => ?_⟩
      ((repeat' first | refine hP2 _ ?_ | fail); try dsimp only)
      rcases ha with q | q
      · exact (am_no i0 q.1 q.2).elim
      · refine m_X12_in1 q.1 q.2 ?_
        ((repeat' first | refine hP2 _ ?_ | fail); try dsimp only)
        exact ⟨fun _ => go, fun c => absurd c (by decide)⟩
  refine en_X11_moments rfl ?_
  intro P hP
  ((repeat' first | refine hP _ ?_ | fail); try dsimp only)
  refine ⟨fun n101 => ?_, fun c => ?_⟩
  rotate_left
  · -- 101
    subst c
    ((repeat' first | refine hP _ ?_ | fail); try dsimp only)
    rcases hcls with ⟨e5, nc, hk⟩ | ⟨k, hkl, e5, cn, cn0⟩
    · rw [e5]
      refine ⟨fun c => absurd rfl c, fun _ => ?_⟩
      ((repeat' first | refine hP _ ?_ | fail); try dsimp only)
      refine h (-2) v w (fun Q2 h2 => ?_)
      refine hr (Or.inr (by decide)) Q2 (fun k _ q => (nope nc _ q).elim) (fun _ v2 P2 f2 hP2 => ?_)
      ((repeat' first | refine hP2 _ ?_ | fail); try dsimp only)
      refine ⟨fun c => absurd rfl c, fun _ => ?_⟩
      ((repeat' first | refine hP2 _ ?_ | fail); try dsimp only)
      exact h2 v2 w (hI.s92 f2)
    · rw [e5]
      refine ⟨fun _ => ?_, fun c => absurd c (nI_nm1 (by omega)).1⟩
      ((repeat' first | refine hP _ ?_ | fail); try dsimp only)
      rw [e5]
      refine h _ v w (fun Q2 h2 => ?_)
      refine hr (Or.inr (by decide)) Q2 (fun k2 hk2 cn2 cn3 v2 P2 f2 hP2 => ?_) (fun nc => (nope nc _ cn).elim)
      have : k2 = k := by
        rcases Nat.lt_trichotomy k2 k with z | z | z
        · exact absurd (tr_con_mono (fun l hl => by
            rw [show ls.take (k2 + 1) = (ls.take k).take (k2 + 1) by rw [List.take_take]; congr 1; omega] at hl
            exact List.mem_of_mem_take hl) cn2) cn0
        · exact z
        · exact absurd (tr_con_mono (fun l hl => by
            rw [show ls.take (k + 1) = (ls.take k2).take (k + 1) by rw [List.take_take]; congr 1; omega] at hl
            exact List.mem_of_mem_take hl) cn) cn3
      subst this
      ((repeat' first | refine hP2 _ ?_ | fail); try dsimp only)
      refine ⟨fun c => absurd rfl c, fun _ => ?_⟩
      ((repeat' first | refine hP2 _ ?_ | fail); try dsimp only)
      exact h2 v2 w (hI.s92 f2)
  -- behind the first questions
  have go : ((0 ≤ a ∧ a ≤ 15) ∨ a = 100) → P (cd_X11_moments.drop 24, [some (.ref 0), some (.int a)], [], (am_sh, v, w), 0, 0) := by
    intro ha
    have ha' : (0 ≤ a ∧ a ≤ 15) ∨ (100 ≤ a ∧ a ≤ 101) := ha.imp id (fun q => by rw [q]; decide)
    ((repeat' first | refine hP _ ?_ | fail); try dsimp only)
    rcases hcls with ⟨e5, nc, hk⟩ | ⟨k, hkl, e5, cn, cn0⟩
    rotate_left
    · rw [e5]
      refine ⟨fun c => absurd c (nI_nm1 (by omega)).1, fun _ => ?_⟩
      ((repeat' first | refine hP _ ?_ | fail); try dsimp only)
      refine h (-3) v w (fun Q2 h2 => ?_)
      refine hr ha' Q2 (fun k2 hk2 cn2 cn3 v2 P2 f2 hP2 => ?_) (fun nc => (nope nc _ cn).elim)
      ((repeat' first | refine hP2 _ ?_ | fail); try dsimp only)
      refine ⟨fun _ => ?_, fun z => absurd z n101⟩
      ((repeat' first | refine hP2 _ ?_ | fail); try dsimp only)
      refine ⟨fun z => absurd z (nI_nm1 (by omega)).2, fun _ => ?_⟩
      ((repeat' first | refine hP2 _ ?_ | fail); try dsimp only)
      exact h2 v2 w (hI.s92 f2)
    rw [e5]
    refine ⟨fun _ => ?_, fun c => absurd rfl c⟩
    -- the reference, up to the most
    have ref : ∀ (Q2 : Option Value → am_H → Prop), (∀ (v2 : am_V) (M : Nat → Nat) (P2 : am_C → Prop), (∀ c, c ≠ 92 → v2 c = v c) → tr_mo ls M → mo_at v2 M → (∀ q, am_step (am_kc L xs) am_idx (am_run (am_kc L xs) am_idx am_m (d + 49)) cd_X12_moments 0 0 Q2 P2 q → P2 q) → P2 (cd_X12_moments.drop 51, [some (.ref 62), some (.int a), some (.int (-2)), some (.int (mbF (v 22 4) (v2 92) 16)), some (.int (nI 16))], [], (am_sh, v2, w), 0, 0)) → am_run (am_kc L xs) am_idx am_m (d + 50) 205 [.ref 62, .int a] (am_sh, v, w) 0 0 Q2 := by
      intro Q2 e2
      refine hr ha' Q2 (fun k _ q => (nope nc _ q).elim) (fun _ v2 P2 f2 hP2 => ?_)
      have ln2 := tr_ln_o hln f2
      have g48 : v2 62 48 = nI ls.length := by rw [f2 62 (by decide)]; exact h48
      ((repeat' first | refine hP2 _ ?_ | fail); try dsimp only)
      refine ⟨fun _ => ?_, fun z => absurd z n101⟩
      ((repeat' first | refine hP2 _ ?_ | fail); try dsimp only)
      refine ⟨fun _ => ?_, fun z => absurd rfl z⟩
      ((repeat' first | refine hP2 _ ?_ | fail); try dsimp only)
      rw [g48]
      refine m_lays (m := ls.length) (Nat.le_refl _) hN ln2 (fun _ v3 M f3 hM hat => ?_) (fun q => (nope nc _ q).elim)
      rw [List.take_length] at hM
      have f4 : ∀ c, c ≠ 92 → v3 c = v c := fun c hc => by rw [f3 c hc, f2 c hc]
      ((iterate 1 refine hP2 _ ?_); try dsimp only)
      refine lp_most hN (by rw [f4 62 (by decide)]; exact h48) (tr_ln_o hln f4) hnm hP2 ?_
      exact e2 v3 M P2 f4 hM hat hP2
    -- the moments are the same
    have same : ∀ (v2 : am_V) (M : Nat → Nat), tr_mo ls M → mo_at v2 M → ∀ b, b < 16 → tr_nm ls b → v 25 b = v2 92 b := by
      intro v2 M hM hat b hb t
      have hne : ¬ ls = [] := by
        rintro rfl
        obtain ⟨p, q, e, g, _⟩ := t
        exact absurd g (by simp)
      obtain ⟨-, M', m1, m2⟩ := hk.resolve_left hne
      rw [m1 b hb, hat b hb, tr_mo_un m2 hM hb]
    by_cases a100 : a = 100
    · subst a100
      ((repeat' first | refine hP _ ?_ | fail); try dsimp only)
      refine ⟨fun _ => ?_, fun c => absurd rfl c⟩
      ((repeat' first | refine hP _ ?_ | fail); try dsimp only)
      refine ⟨fun c => absurd rfl c, fun _ => ?_⟩
      ((repeat' first | refine hP _ ?_ | fail); try dsimp only)
      refine m_lastMo hnm ?_
      ((repeat' first | refine hP _ ?_ | fail); try dsimp only)
      refine h _ v w (fun Q2 h2 => ref Q2 (fun v2 M P2 f2 hM hat hP2 => ?_))
      rw [← mbF_congr hnm 16 (by omega) (same v2 M hM hat)]
      ((repeat' first | refine hP2 _ ?_ | fail); try dsimp only)
      refine ⟨fun c => absurd rfl c, fun _ => ?_⟩
      ((repeat' first | refine hP2 _ ?_ | fail); try dsimp only)
      exact h2 v2 w (hI.s92 f2)
    · have ha15 := ha.resolve_right a100
      obtain ⟨n, hn, rfl⟩ := am_nat ha15.1 ha15.2 (n := 15) rfl
      ((repeat' first | refine hP _ ?_ | fail); try dsimp only)
      refine ⟨fun c => absurd c a100, fun _ => ?_⟩
      ((repeat' first | refine hP _ ?_ | fail); try dsimp only)
      refine m_namesC hnm (by omega) (fun t => ?_) (fun t => ?_)
      · ((repeat' first | refine hP _ ?_ | fail); try dsimp only)
        refine ⟨fun _ => ?_, fun c => absurd c (by decide)⟩
        ((repeat' first | refine hP _ ?_ | fail); try dsimp only)
        refine ⟨fun _ => ?_, fun c => absurd c a100⟩
        ((repeat' first | refine hP _ ?_ | fail); try dsimp only)
        refine m_trGet_2 (by omega) ?_
        ((repeat' first | refine hP _ ?_ | fail); try dsimp only)
        refine h _ v w (fun Q2 h2 => ref Q2 (fun v2 M P2 f2 hM hat hP2 => ?_))
        have ln2 := tr_ln_o hln f2
        have g48 : v2 62 48 = nI ls.length := by rw [f2 62 (by decide)]; exact h48
        ((repeat' first | refine hP2 _ ?_ | fail); try dsimp only)
        refine ⟨fun _ => ?_, fun c => absurd c a100⟩
        ((repeat' first | refine hP2 _ ?_ | fail); try dsimp only)
        refine m_named hN g48 ln2 (fun x hx => ?_)
        ((repeat' first | refine hP2 _ ?_ | fail); try dsimp only)
        refine m_has1 hx (by omega) (fun _ => ?_) (fun z => absurd t z)
        ((repeat' first | refine hP2 _ ?_ | fail); try dsimp only)
        refine ⟨fun c => absurd c (by decide), fun _ => ?_⟩
        ((repeat' first | refine hP2 _ ?_ | fail); try dsimp only)
        refine ⟨vp_in_nI (by omega) (by omega), ?_⟩
        ((repeat' first | refine hP2 _ ?_ | fail); try dsimp only)
        rw [nI_clamp (by omega), ← same v2 M hM hat n (by omega) t]
        exact h2 v2 w (hI.s92 f2)
      · ((repeat' first | refine hP _ ?_ | fail); try dsimp only)
        refine ⟨fun c => absurd rfl c, fun _ => ?_⟩
        ((repeat' first | refine hP _ ?_ | fail); try dsimp only)
        refine h (-2) v w (fun Q2 h2 => ref Q2 (fun v2 M P2 f2 hM hat hP2 => ?_))
        have ln2 := tr_ln_o hln f2
        have g48 : v2 62 48 = nI ls.length := by rw [f2 62 (by decide)]; exact h48
        ((repeat' first | refine hP2 _ ?_ | fail); try dsimp only)
        refine ⟨fun _ => ?_, fun c => absurd c a100⟩
        ((repeat' first | refine hP2 _ ?_ | fail); try dsimp only)
        refine m_named hN g48 ln2 (fun x hx => ?_)
        ((repeat' first | refine hP2 _ ?_ | fail); try dsimp only)
        refine m_has1 hx (by omega) (fun z => absurd z t) (fun _ => ?_)
        ((repeat' first | refine hP2 _ ?_ | fail); try dsimp only)
        refine ⟨fun _ => ?_, fun c => absurd rfl c⟩
        ((repeat' first | refine hP2 _ ?_ | fail); try dsimp only)
        exact h2 v2 w (hI.s92 f2)
  ((repeat' first | refine hP _ ?_ | fail); try dsimp only)
  refine m_X11_outside (fun c => ?_) (fun c1 c2 => ?_)
  · ((repeat' first | refine hP _ ?_ | fail); try dsimp only)
    refine ⟨fun z => absurd z (by decide), fun _ => ?_⟩
    ((repeat' first | refine hP _ ?_ | fail); try dsimp only)
    refine ⟨fun z => go (Or.inr z), fun z => ?_⟩
    ((repeat' first | refine hP _ ?_ | fail); try dsimp only)
    refine h (-1) v w (fun Q2 h2 => ?_)
    refine en_X12_moments rfl ?_
    intro P2 hP2
    ((repeat' first | refine hP2 _ ?_ | fail); try dsimp only)
    refine m_X12_in0 c ?_
    ((repeat' first | refine hP2 _ ?_ | fail); try dsimp only)
    refine ⟨fun c => absurd rfl c, fun _ => ?_⟩
    ((repeat' first | refine hP2 _ ?_ | fail); try dsimp only)
    refine m_X12_in (fun i1 i2 => ?_) (fun i0 => ?_)
    · exact ((am_100 i1 i2).elim z n101).elim
    · ((repeat' first | refine hP2 _ ?_ | fail); try dsimp only)
      refine ⟨fun c => absurd rfl c, fun _ => ?_⟩
      ((repeat' first | refine hP2 _ ?_ | fail); try dsimp only)
      exact h2 v w hI
  · ((repeat' first | refine hP _ ?_ | fail); try dsimp only)
    refine ⟨fun _ => go (Or.inl ⟨c1, c2⟩), fun z => absurd rfl z⟩
