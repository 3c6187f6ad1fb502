/-! ===== pair: feed ===== -/
theorem by8 (y : Int32) : y.toInt8.toInt32 &&& 255 = y &&& 255 := by
  apply Int32.toBitVec_inj.mp
  rw [Int32.toBitVec_and, Int32.toBitVec_and]
  show (BitVec.signExtend 32 (y.toBitVec.signExtend 8)) &&& 255#32 = y.toBitVec &&& 255#32
  apply BitVec.eq_of_getLsbD_eq
  intro i hi
  rw [BitVec.getLsbD_and, BitVec.getLsbD_and]
  by_cases h8 : i < 8
  · congr 1
    simp only [BitVec.getLsbD_signExtend, hi, h8, decide_true, Bool.true_and, if_true]
  · have : (255#32).getLsbD i = false := by
      have e : (255#32) = (BitVec.allOnes 8).setWidth 32 := by decide
      rw [e, BitVec.getLsbD_setWidth, BitVec.getLsbD_of_ge _ _ (show 8 ≤ i by omega), Bool.and_false]
    rw [this, Bool.and_false, Bool.and_false]
/-- bytes laid on the tape, on either side -/
def f_c1 (v : am_V) (n : Nat) (b : Int32) : am_V := am_up (am_up v 2 n b) 1 1 (nI (n + 1))
def f_r1 (v : am_V) (n : Nat) (b : Int32) : am_V := am_up (am_up v 66 n b) 62 6 (nI (n + 1))
def f_cs : am_V → Nat → List Int32 → am_V
  | v, _, [] => v
  | v, n, b :: bs => f_cs (f_c1 v n b) (n + 1) bs
def f_rs : am_V → Nat → List Int32 → am_V
  | v, _, [] => v
  | v, n, b :: bs => f_rs (f_r1 v n b) (n + 1) bs
theorem f_cs_2 : ∀ (bs : List Int32) (v : am_V) (n i : Nat), f_cs v n bs 2 i = if n ≤ i ∧ i < n + bs.length then bs.getD (i - n) 0 else v 2 i
  | [], v, n, i => by
    have : ¬ (n ≤ i ∧ i < n + 0) := by omega
    rw [f_cs, List.length_nil, if_neg this]
  | b :: bs, v, n, i => by
    rw [f_cs, f_cs_2 bs]
    simp only [f_c1, am_up_eq, List.length_cons]
    by_cases h1 : n + 1 ≤ i ∧ i < n + 1 + bs.length
    · rw [if_pos h1, if_pos (by omega), show i - n = (i - (n + 1)) + 1 by omega, List.getD_cons_succ]
    · rw [if_neg h1]
      by_cases h2 : i = n
      · subst h2
        simp
      · have : ¬ (n ≤ i ∧ i < n + (bs.length + 1)) := by omega
        simp [h2, this]
theorem f_cs_1 : ∀ (bs : List Int32) (v : am_V) (n : Nat), bs ≠ [] → f_cs v n bs 1 1 = nI (n + bs.length)
  | [], v, n, h => absurd rfl h
  | [b], v, n, _ => by simp [f_cs, f_c1, am_up_eq]
  | b :: c :: bs, v, n, _ => by
    rw [f_cs, f_cs_1 (c :: bs) _ _ (by simp)]
    congr 1
    simp
    omega
theorem f_cs_o : ∀ (bs : List Int32) (v : am_V) (n k : Nat), k ≠ 1 → k ≠ 2 → f_cs v n bs k = v k
  | [], _, _, _, _, _ => rfl
  | b :: bs, v, n, k, h1, h2 => by
    rw [f_cs, f_cs_o bs _ _ k h1 h2, f_c1, am_up_ne _ _ _ h1, am_up_ne _ _ _ h2]
theorem f_rs_66 : ∀ (bs : List Int32) (v : am_V) (n i : Nat), f_rs v n bs 66 i = if n ≤ i ∧ i < n + bs.length then bs.getD (i - n) 0 else v 66 i
  | [], v, n, i => by
    have : ¬ (n ≤ i ∧ i < n + 0) := by omega
    rw [f_rs, List.length_nil, if_neg this]
  | b :: bs, v, n, i => by
    rw [f_rs, f_rs_66 bs]
    simp only [f_r1, am_up_eq, List.length_cons]
    by_cases h1 : n + 1 ≤ i ∧ i < n + 1 + bs.length
    · rw [if_pos h1, if_pos (by omega), show i - n = (i - (n + 1)) + 1 by omega, List.getD_cons_succ]
    · rw [if_neg h1]
      by_cases h2 : i = n
      · subst h2
        simp
      · have : ¬ (n ≤ i ∧ i < n + (bs.length + 1)) := by omega
        simp [h2, this]
theorem f_rs_6 : ∀ (bs : List Int32) (v : am_V) (n : Nat), bs ≠ [] → f_rs v n bs 62 6 = nI (n + bs.length)
  | [], v, n, h => absurd rfl h
  | [b], v, n, _ => by simp [f_rs, f_r1, am_up_eq]
  | b :: c :: bs, v, n, _ => by
    rw [f_rs, f_rs_6 (c :: bs) _ _ (by simp)]
    congr 1
    simp
    omega
theorem f_rs_o : ∀ (bs : List Int32) (v : am_V) (n k : Nat), k ≠ 62 → k ≠ 66 → f_rs v n bs k = v k
  | [], _, _, _, _, _ => rfl
  | b :: bs, v, n, k, h1, h2 => by
    rw [f_rs, f_rs_o bs _ _ k h1 h2, f_r1, am_up_ne _ _ _ h1, am_up_ne _ _ _ h2]
theorem f_rs_62 : ∀ (bs : List Int32) (v : am_V) (n j : Nat), j ≠ 6 → f_rs v n bs 62 j = v 62 j
  | [], _, _, _, _ => rfl
  | b :: bs, v, n, j, h1 => by
    rw [f_rs, f_rs_62 bs _ _ j h1, f_r1]
    simp [am_up_eq, h1]
theorem f_cs_app : ∀ (as bs : List Int32) (v : am_V) (n : Nat), f_cs (f_cs v n as) (n + as.length) bs = f_cs v n (as ++ bs)
  | [], _, _, _ => rfl
  | a :: as, bs, v, n => by
    rw [List.cons_append, f_cs, f_cs, ← f_cs_app as bs]
    congr 1
    simp
    omega
theorem f_rs_app : ∀ (as bs : List Int32) (v : am_V) (n : Nat), f_rs (f_rs v n as) (n + as.length) bs = f_rs v n (as ++ bs)
  | [], _, _, _ => rfl
  | a :: as, bs, v, n => by
    rw [List.cons_append, f_rs, f_rs, ← f_rs_app as bs]
    congr 1
    simp
    omega
def f_cb (x : Int32) : List Int32 := [(x >>> (24 &&& 31)) &&& 255, (x >>> (16 &&& 31)) &&& 255, (x >>> (8 &&& 31)) &&& 255, (x >>> (0 &&& 31)) &&& 255]
def f_rb (x : Int32) : List Int32 := [vp_nar .byte ((x >>> (24 &&& 31)).toInt8.toInt32), vp_nar .byte ((x >>> (16 &&& 31)).toInt8.toInt32), vp_nar .byte ((x >>> (8 &&& 31)).toInt8.toInt32), vp_nar .byte ((x >>> (0 &&& 31)).toInt8.toInt32)]
theorem f_b8 (y : Int32) : vp_nar .byte (y.toInt8.toInt32) &&& 255 = y &&& 255 := by rw [pk_vb, by8]
section M28
variable {K : am_K} {I : am_I} {d : Nat} {v : am_V} {w : am_X} {Q : Option Value → am_H → Prop}
set_option maxRecDepth 100000 in
set_option maxHeartbeats 4000000 in
theorem m_X8_append {x : Int32} {n : Nat} (hn : v 1 1 = nI n) (hn2 : n + 4 ≤ 260) (h : Q none (am_sh, f_cs v n (f_cb x), w)) : am_run K I am_m (d + 1) 84 [.ref 1, .int x] (am_sh, v, w) 0 0 Q := by
  refine en_X8_append rfl ?_
  intro P hP
  have pass : ∀ (s : Int32) (u : am_V) (k : Nat), ¬ s < 0 → u 1 1 = nI k → k < 260 → P (cd_X8_append.drop 2, [some (.ref 1), some (.int x), some (.int (s + -8))], [], (am_sh, f_c1 u k ((x >>> (s &&& 31)) &&& 255), w), 0, 0) → P (cd_X8_append.drop 2, [some (.ref 1), some (.int x), some (.int s)], [], (am_sh, u, w), 0, 0) := by
    intro s u k hs hk hk2 e
    ((repeat' first | refine hP _ ?_ | fail); try dsimp only)
    refine ⟨fun c => absurd c hs, fun _ => ?_⟩
    ((repeat' first | refine hP _ ?_ | fail); try dsimp only)
    rw [hk]
    refine ⟨fun c => absurd c (nI_ge (a := k) (b := 260) (by omega) (by omega)), fun _ => ?_⟩
    ((repeat' first | refine hP _ ?_ | fail); try dsimp only)
    rw [hk]
    refine ⟨vp_in_nI (by omega) (by omega), ?_⟩
    rw [f_c1, ← nI_1, ← hk] at e
    try dsimp only
    rw [nI_clamp (by omega)]
    ((iterate 8 refine hP _ ?_); try dsimp only)
    have e2 : am_up u 2 k (x >>> (s &&& 31) &&& 255) 1 1 = u 1 1 := by simp [am_up_eq]
    try dsimp only
    rw [e2]
    exact e
  ((iterate 2 refine hP _ ?_); try dsimp only)
  refine pass 24 v n (by decide) hn (by omega) ?_
  rw [show (24 + -8 : Int32) = 16 from rfl]
  refine pass 16 _ (n + 1) (by decide) (by simp [f_c1, am_up_eq]) (by omega) ?_
  rw [show (16 + -8 : Int32) = 8 from rfl]
  refine pass 8 _ (n + 2) (by decide) (by simp [f_c1, am_up_eq]) (by omega) ?_
  rw [show (8 + -8 : Int32) = 0 from rfl]
  refine pass 0 _ (n + 3) (by decide) (by simp [f_c1, am_up_eq]) (by omega) ?_
  rw [show (0 + -8 : Int32) = -8 from rfl]
  ((repeat' first | refine hP _ ?_ | fail); try dsimp only)
  refine ⟨fun _ => ?_, fun c => absurd (by decide) c⟩
  ((repeat' first | refine hP _ ?_ | fail); try dsimp only)
  exact h
set_option maxRecDepth 100000 in
set_option maxHeartbeats 4000000 in
theorem m_X12_types {x : Int32} {n : Nat} (hn : v 62 6 = nI n) (hn2 : n + 4 ≤ 260) (h : Q none (am_sh, f_rs v n (f_rb x), w)) : am_run K I am_m (d + 1) 149 [.ref 62, .int x] (am_sh, v, w) 0 0 Q := by
  refine en_X12_types rfl ?_
  intro P hP
  have pass : ∀ (s t : Int32) (u : am_V) (k : Nat), ¬ s < 0 → 8 * s = t → u 62 6 = nI k → k < 260 → P (cd_X12_types.drop 2, [some (.ref 62), some (.int x), some (.int (s + -1))], [], (am_sh, f_r1 u k (vp_nar .byte ((x >>> (t &&& 31)).toInt8.toInt32)), w), 0, 0) → P (cd_X12_types.drop 2, [some (.ref 62), some (.int x), some (.int s)], [], (am_sh, u, w), 0, 0) := by
    intro s t u k hs ht hk hk2 e
    ((repeat' first | refine hP _ ?_ | fail); try dsimp only)
    refine ⟨fun c => absurd c hs, fun _ => ?_⟩
    ((repeat' first | refine hP _ ?_ | fail); try dsimp only)
    rw [hk]
    refine ⟨vp_in_nI (by omega) (by omega), ?_⟩
    rw [f_r1, ← nI_1, ← hk] at e
    try dsimp only
    rw [nI_clamp (by omega), ht]
    ((iterate 8 refine hP _ ?_); try dsimp only)
    have e2 : am_up u 66 k (vp_nar .byte ((x >>> (t &&& 31)).toInt8.toInt32)) 62 6 = u 62 6 := by simp [am_up_eq]
    try dsimp only
    rw [e2]
    exact e
  ((iterate 2 refine hP _ ?_); try dsimp only)
  refine pass 3 24 v n (by decide) rfl hn (by omega) ?_
  rw [show (3 + -1 : Int32) = 2 from rfl]
  refine pass 2 16 _ (n + 1) (by decide) rfl (by simp [f_r1, am_up_eq]) (by omega) ?_
  rw [show (2 + -1 : Int32) = 1 from rfl]
  refine pass 1 8 _ (n + 2) (by decide) rfl (by simp [f_r1, am_up_eq]) (by omega) ?_
  rw [show (1 + -1 : Int32) = 0 from rfl]
  refine pass 0 0 _ (n + 3) (by decide) rfl (by simp [f_r1, am_up_eq]) (by omega) ?_
  rw [show (0 + -1 : Int32) = -1 from rfl]
  ((repeat' first | refine hP _ ?_ | fail); try dsimp only)
  refine ⟨fun _ => ?_, fun c => absurd (by decide) c⟩
  ((repeat' first | refine hP _ ?_ | fail); try dsimp only)
  exact h
end M28
theorem f_by (x : Int32) : ∀ j, (f_cb x).getD j 0 = (f_rb x).getD j 0 &&& 255
  | 0 => (f_b8 _).symm
  | 1 => (f_b8 _).symm
  | 2 => (f_b8 _).symm
  | 3 => (f_b8 _).symm
  | _ + 4 => show (0 : Int32) = 0 &&& 255 from by decide
theorem f_byA {as bs cs es : List Int32} (hl : as.length = bs.length) (h1 : ∀ j, as.getD j 0 = bs.getD j 0 &&& 255) (h2 : ∀ j, cs.getD j 0 = es.getD j 0 &&& 255) : ∀ j, (as ++ cs).getD j 0 = (bs ++ es).getD j 0 &&& 255 := by
  intro j
  have a := h1 j
  have b := h2 (j - as.length)
  simp only [List.getD_eq_getElem?_getD, List.getElem?_append] at a b ⊢
  by_cases hj : j < as.length
  · rw [if_pos hj, if_pos (by omega)]
    exact a
  · rw [if_neg hj, if_neg (by omega), ← hl]
    exact b
set_option maxRecDepth 100000 in
set_option maxHeartbeats 4000000 in
theorem pr_feed {L : Nat} {xs : Nat → Int32} (a b c e f : Int32) : am_pair L xs 105 150 [.int a, .int b, .int c, .int e, .int f] := by
  intro d v w Q hI h
  obtain ⟨n, hn, hn1, hn2, hby⟩ := hI.2.2.2.1
  refine en_X11_feed rfl ?_
  intro P hP
  ((repeat' first | refine hP _ ?_ | fail); try dsimp only)
  rw [hn1, show nI n + 20 = nI (n + 20) from nI_add n 20]
  refine ⟨fun q => ?_, fun q => ?_⟩
  · have hle : n + 20 ≤ 260 := (nI_leI (a := n + 20) (b := 260) (by omega) (by omega)).mp q
    ((repeat' first | refine hP _ ?_ | fail); try dsimp only)
    refine m_X8_append hn1 (by omega) ?_
    ((repeat' first | refine hP _ ?_ | fail); try dsimp only)
    refine m_X8_append (n := n + 4) (f_cs_1 _ _ _ (by simp [f_cb])) (by omega) ?_
    ((repeat' first | refine hP _ ?_ | fail); try dsimp only)
    rw [show n + 4 = n + (f_cb a).length from rfl, f_cs_app]
    refine m_X8_append (n := n + 8) (f_cs_1 _ _ _ (by simp [f_cb])) (by omega) ?_
    ((repeat' first | refine hP _ ?_ | fail); try dsimp only)
    rw [show n + 8 = n + (f_cb a ++ f_cb b).length from rfl, f_cs_app]
    refine m_X8_append (n := n + 12) (f_cs_1 _ _ _ (by simp [f_cb])) (by omega) ?_
    ((repeat' first | refine hP _ ?_ | fail); try dsimp only)
    rw [show n + 12 = n + (f_cb a ++ f_cb b ++ f_cb c).length from rfl, f_cs_app]
    refine m_X8_append (n := n + 16) (f_cs_1 _ _ _ (by simp [f_cb])) (by omega) ?_
    ((repeat' first | refine hP _ ?_ | fail); try dsimp only)
    rw [show n + 16 = n + (f_cb a ++ f_cb b ++ f_cb c ++ f_cb e).length from rfl, f_cs_app]
    refine am_qr (r' := nI (n + 20)) (f_cs_1 _ _ _ (by simp [f_cb])) rfl (h _ _ w (fun Q2 h2 => ?_))
    generalize hv1 : f_cs v n (f_cb a ++ f_cb b ++ f_cb c ++ f_cb e ++ f_cb f) = v1
    have g6 : v1 62 6 = nI n := by rw [← hv1, f_cs_o _ _ _ 62 (by decide) (by decide)]; exact hn2
    refine en_X12_feed rfl ?_
    intro P2 hP2
    ((repeat' first | refine hP2 _ ?_ | fail); try dsimp only)
    rw [g6, show nI n + 20 = nI (n + 20) from nI_add n 20]
    refine ⟨fun _ => ?_, fun z => absurd q z⟩
    ((repeat' first | refine hP2 _ ?_ | fail); try dsimp only)
    refine m_X12_types g6 (by omega) ?_
    ((repeat' first | refine hP2 _ ?_ | fail); try dsimp only)
    refine m_X12_types (n := n + 4) (f_rs_6 _ _ _ (by simp [f_rb])) (by omega) ?_
    ((repeat' first | refine hP2 _ ?_ | fail); try dsimp only)
    rw [show n + 4 = n + (f_rb a).length from rfl, f_rs_app]
    refine m_X12_types (n := n + 8) (f_rs_6 _ _ _ (by simp [f_rb])) (by omega) ?_
    ((repeat' first | refine hP2 _ ?_ | fail); try dsimp only)
    rw [show n + 8 = n + (f_rb a ++ f_rb b).length from rfl, f_rs_app]
    refine m_X12_types (n := n + 12) (f_rs_6 _ _ _ (by simp [f_rb])) (by omega) ?_
    ((repeat' first | refine hP2 _ ?_ | fail); try dsimp only)
    rw [show n + 12 = n + (f_rb a ++ f_rb b ++ f_rb c).length from rfl, f_rs_app]
    refine m_X12_types (n := n + 16) (f_rs_6 _ _ _ (by simp [f_rb])) (by omega) ?_
    ((repeat' first | refine hP2 _ ?_ | fail); try dsimp only)
    rw [show n + 16 = n + (f_rb a ++ f_rb b ++ f_rb c ++ f_rb e).length from rfl, f_rs_app]
    refine am_qr (r' := nI (n + 20)) (f_rs_6 _ _ _ (by simp [f_rb])) rfl (h2 _ w ?_)
    generalize hv2 : f_rs v1 n (f_rb a ++ f_rb b ++ f_rb c ++ f_rb e ++ f_rb f) = v2
    have o : ∀ k, k ≠ 1 → k ≠ 2 → k ≠ 62 → k ≠ 66 → v2 k = v k := fun k k1 k2 k3 k4 => by rw [← hv2, f_rs_o _ _ _ k k3 k4, ← hv1, f_cs_o _ _ _ k k1 k2]
    have o62 : ∀ j, j ≠ 6 → v2 62 j = v 62 j := fun j hj => by rw [← hv2, f_rs_62 _ _ _ j hj, ← hv1, f_cs_o _ _ _ 62 (by decide) (by decide)]
    obtain ⟨hm, hk, hmi, ht, hl, hr⟩ := hI
    refine ⟨?_, ?_, ?_, ⟨n + 20, hle, ?_, ?_, ?_⟩, ?_, ?_⟩
    · unfold iv_meet iv_rng
      rw [o 30 (by decide) (by decide) (by decide) (by decide), o 31 (by decide) (by decide) (by decide) (by decide), o 32 (by decide) (by decide) (by decide) (by decide), o 63 (by decide) (by decide) (by decide) (by decide)]
      exact hm
    · unfold iv_meet iv_rng
      rw [o 0 (by decide) (by decide) (by decide) (by decide), o 36 (by decide) (by decide) (by decide) (by decide), o 37 (by decide) (by decide) (by decide) (by decide), o 38 (by decide) (by decide) (by decide) (by decide), o 65 (by decide) (by decide) (by decide) (by decide)]
      exact hk
    · unfold iv_misc
      rw [o 0 (by decide) (by decide) (by decide) (by decide), o62 62 (by decide), o62 3 (by decide), o62 4 (by decide)]
      exact hmi
    · rw [← hv2, f_rs_o _ _ _ 1 (by decide) (by decide), ← hv1]
      exact f_cs_1 _ _ _ (by simp [f_cb])
    · rw [← hv2]
      exact f_rs_6 _ _ _ (by simp [f_rb])
    · intro i hi
      rw [← hv2, f_rs_66, f_rs_o _ _ _ 2 (by decide) (by decide), ← hv1, f_cs_2, f_cs_o _ _ _ 66 (by decide) (by decide)]
      by_cases hin : n ≤ i
      · rw [if_pos ⟨hin, by simp [f_cb]; omega⟩, if_pos ⟨hin, by simp [f_rb]; omega⟩]
        exact f_byA (as := f_cb a ++ f_cb b ++ f_cb c ++ f_cb e) (bs := f_rb a ++ f_rb b ++ f_rb c ++ f_rb e) rfl (f_byA (as := f_cb a ++ f_cb b ++ f_cb c) (bs := f_rb a ++ f_rb b ++ f_rb c) rfl (f_byA (as := f_cb a ++ f_cb b) (bs := f_rb a ++ f_rb b) rfl (f_byA (as := f_cb a) (bs := f_rb a) rfl (f_by a) (f_by b)) (f_by c)) (f_by e)) (f_by f) _
      · rw [if_neg (fun z => hin z.1), if_neg (fun z => hin z.1)]
        exact hby i (by omega)
    · unfold iv_law
      rw [o 3 (by decide) (by decide) (by decide) (by decide), o 4 (by decide) (by decide) (by decide) (by decide), o 5 (by decide) (by decide) (by decide) (by decide), o 6 (by decide) (by decide) (by decide) (by decide), o 7 (by decide) (by decide) (by decide) (by decide), o62 15 (by decide), o 73 (by decide) (by decide) (by decide) (by decide), o 74 (by decide) (by decide) (by decide) (by decide), o 75 (by decide) (by decide) (by decide) (by decide), o 76 (by decide) (by decide) (by decide) (by decide), o 77 (by decide) (by decide) (by decide) (by decide)]
      exact hl
    · unfold iv_tre
      rw [o 22 (by decide) (by decide) (by decide) (by decide), o 23 (by decide) (by decide) (by decide) (by decide), o 24 (by decide) (by decide) (by decide) (by decide), o 25 (by decide) (by decide) (by decide) (by decide), o62 48 (by decide), o 88 (by decide) (by decide) (by decide) (by decide), o 89 (by decide) (by decide) (by decide) (by decide), o 93 (by decide) (by decide) (by decide) (by decide)]
      exact hr
  · ((repeat' first | refine hP _ ?_ | refine ⟨fun c1 => absurd c1 (by decide), fun _ => ?_⟩ | refine ⟨fun _ => ?_, fun c1 => absurd c1 (by decide)⟩ | refine ⟨am_vin rfl, ?_⟩ | refine ⟨fun c1 => ?_, fun c1 => ?_⟩ | refine ⟨Or.inr rfl, ?_⟩ | refine ⟨Or.inl rfl, ?_⟩ | fail); all_goals (try dsimp only at *))
    refine h (-1) v w (fun Q2 h2 => ?_)
    refine en_X12_feed rfl ?_
    intro P2 hP2
    ((repeat' first | refine hP2 _ ?_ | fail); try dsimp only)
    rw [hn2, show nI n + 20 = nI (n + 20) from nI_add n 20]
    refine ⟨fun z => absurd z q, fun _ => ?_⟩
    ((repeat' first | refine hP2 _ ?_ | refine ⟨fun c1 => absurd c1 (by decide), fun _ => ?_⟩ | refine ⟨fun _ => ?_, fun c1 => absurd c1 (by decide)⟩ | refine ⟨am_vin rfl, ?_⟩ | refine ⟨fun c1 => ?_, fun c1 => ?_⟩ | refine ⟨Or.inr rfl, ?_⟩ | refine ⟨Or.inl rfl, ?_⟩ | fail); all_goals (try dsimp only at *))
    exact h2 v w hI
