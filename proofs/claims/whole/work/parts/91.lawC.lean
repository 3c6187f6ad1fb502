/-! ===== THE LAW read by the class ===== -/
theorem nx_or (a b : Nat) : nI a ||| nI b = nI (a ||| b) := by
  apply Int32.toBitVec_inj.mp
  rw [Int32.toBitVec_or]
  apply BitVec.eq_of_getLsbD_eq
  intro i hi
  show (BitVec.ofNat 32 a ||| BitVec.ofNat 32 b).getLsbD i = (BitVec.ofNat 32 (a ||| b)).getLsbD i
  rw [BitVec.getLsbD_or, BitVec.getLsbD_ofNat, BitVec.getLsbD_ofNat, BitVec.getLsbD_ofNat, Nat.testBit_or]
  simp [hi]
theorem pc_or {a s : Nat} (ha : a < 2000000) (hs : s < 256) : (nI a <<< (8 &&& 31)) ||| nI s = nI (a * 256 + s) := by
  rw [pk_shlN _ 8 (by decide) (by omega), nx_or]
  have := Nat.two_pow_add_eq_or_of_lt (i := 8) (b := s) hs a
  rw [show a * 2 ^ 8 = 2 ^ 8 * a from Nat.mul_comm _ _, ← this, Nat.mul_comm]
theorem on1 {a c : Int32} : onl [a] c = true ↔ c = a := by
  rw [onl_iff]
  simp
theorem on1n {a c : Int32} : onl [a] c = false ↔ ¬ c = a := by
  rw [onl_no]
  simp
def lr_pre (v : am_V) (T : Nat → Int32) (n p o z : Nat) : Prop := rd v 10 T n p ∧ (v 10 6 = nI o ∧ v 11 6 = nI z) ∧ z ≤ p ∧ o ≤ 6
def lr_fr (v v' : am_V) (z : Nat) : Prop := (∀ c, c ≠ 10 → c ≠ 11 → c ≠ 12 → v' c = v c) ∧ (∀ j, j ≠ 2 → j ≠ 3 → j ≠ 4 → j ≠ 6 → v' 10 j = v 10 j) ∧ (∀ j, j ≠ 6 → v' 11 j = v 11 j) ∧ ∀ i, i < z → v' 12 i = v 12 i
def cdC (f : Nat → Int32) (z : Nat) (c : List lc_O) : Prop := ∀ i x, c[i]? = some x → f (z + i) = lc_C (z + i) x
theorem lr_fr.rf {v : am_V} {z : Nat} : lr_fr v v z := ⟨fun _ _ _ _ => rfl, fun _ _ _ _ _ => rfl, fun _ _ => rfl, fun _ _ => rfl⟩
theorem lr_fr.tr {v v1 v2 : am_V} {z z' : Nat} (h1 : lr_fr v v1 z) (h2 : lr_fr v1 v2 z') (hz : z ≤ z') : lr_fr v v2 z := ⟨fun c a b d => by rw [h2.1 c a b d, h1.1 c a b d], fun j a b c d => by rw [h2.2.1 j a b c d, h1.2.1 j a b c d], fun j a => by rw [h2.2.2.1 j a, h1.2.2.1 j a], fun i hi => by rw [h2.2.2.2 i (by omega), h1.2.2.2 i hi]⟩
theorem lr_fr.u10 {v v1 : am_V} {z : Nat} (h1 : lr_fr v v1 z) {j : Nat} (hj : j = 2 ∨ j = 3 ∨ j = 4 ∨ j = 6) (x : Int32) : lr_fr v (am_up v1 10 j x) z := ⟨fun c a b d => by rw [am_up_ne _ _ _ a, h1.1 c a b d], fun i a b c d => by rw [am_up_eq, if_neg (fun q => by have := q.2; omega), h1.2.1 i a b c d], fun i a => by rw [am_up_ne _ _ _ (by decide), h1.2.2.1 i a], fun i hi => by rw [am_up_ne _ _ _ (by decide), h1.2.2.2 i hi]⟩
theorem cdC.nil {f : Nat → Int32} {z : Nat} : cdC f z [] := fun i x h => absurd h (by simp)
theorem cdC.app {f : Nat → Int32} {z : Nat} {c1 c2 : List lc_O} (h1 : cdC f z c1) (h2 : cdC f (z + c1.length) c2) : cdC f z (c1 ++ c2) := by
  intro i x h
  rcases Nat.lt_or_ge i c1.length with q | q
  · rw [List.getElem?_append_left q] at h
    exact h1 i x h
  · rw [List.getElem?_append_right q] at h
    have := h2 (i - c1.length) x h
    rw [show z + c1.length + (i - c1.length) = z + i by omega] at this
    exact this
theorem cdC.of {f f' : Nat → Int32} {z : Nat} {c : List lc_O} (h : cdC f z c) (he : ∀ i, z ≤ i → i < z + c.length → f' i = f i) : cdC f' z c := by
  intro i x hi
  have := lt_of_get hi
  rw [he (z + i) (by omega) (by omega)]
  exact h i x hi
theorem cdC.one {f : Nat → Int32} {z : Nat} {x : lc_O} (h : f z = lc_C z x) : cdC f z [x] := by
  intro i y hi
  have := lt_of_get hi
  have hi0 : i = 0 := by
    simp at this
    exact this
  subst hi0
  have : x = y := by simpa using hi
  rw [← this]
  exact h
def LRc (K : am_K) (w : am_X) (T : Nat → Int32) (n id B : Nat) (r : lp_R) (p o : Nat) : Prop := ∀ (D z : Nat) (v : am_V) (Q : Option Value → am_H → Prop), 4 * (6 - o) ≤ D → lr_pre v T n p o z → (∀ e v', r = some (.error e) → lr_fr v v' z → v' 10 2 = flt e → Q (some (.int 0)) (am_sh, v', w)) → (∀ p1 c v', r = some (.ok (p1, c)) → lr_fr v v' z → lr_pre v' T n p1 o (z + c.length) → cdC (v' 12) z c → Q (some (.int 1)) (am_sh, v', w)) → am_run K am_idx am_m (D + B) id [.ref 10] (am_sh, v, w) 0 0 Q
theorem am_idx_2537 : am_idx 2537 = some (fun c => am_sfind c 0 [102, 100, 117, 104, 120]) := rfl
theorem am_idx_2647 : am_idx 2647 = some (fun c => am_sfind c 0 [102, 100, 117]) := rfl
theorem am_idx_2703 : am_idx 2703 = some (fun c => am_sfind c 0 [40]) := rfl
theorem am_idx_2736 : am_idx 2736 = some (fun c => am_sfind c 0 [41]) := rfl
theorem am_idx_2735 : am_idx 2735 = some (fun c => am_sfind c 0 [124]) := rfl
theorem am_idx_2730 : am_idx 2730 = some (fun c => am_sfind c 0 [38]) := rfl
theorem am_idx_2724 : am_idx 2724 = some (fun c => am_sfind c 0 [33]) := rfl
theorem am_idx_2729 : am_idx 2729 = some (fun c => am_sfind c 0 cmL) := rfl
theorem am_idx_2702 : am_idx 2702 = some (fun c => am_sfind c 0 adL) := rfl
theorem am_idx_2701 : am_idx 2701 = some (fun c => am_sfind c 0 muL) := rfl
theorem am_idx_2675 : am_idx 2675 = some (fun c => am_sfind c 0 [91]) := rfl
theorem am_idx_2686 : am_idx 2686 = some (fun c => am_sfind c 0 ltL) := rfl
theorem am_idx_2685 : am_idx 2685 = some (fun c => am_sfind c 0 [93]) := rfl
theorem am_idx_2684 : am_idx 2684 = some (fun c => am_sfind c 0 [40, 91, 33]) := rfl
theorem rdr10 : rdr 10 := by unfold rdr; decide
section M91
variable {K : am_K} {d : Nat} {v : am_V} {w : am_X} {Q : Option Value → am_H → Prop} {T : Nat → Int32} {n p oo z : Nat}
set_option maxRecDepth 100000 in
set_option maxHeartbeats 4000000 in
theorem m_put {I : am_I} {a sg : Nat} (hz : v 11 6 = nI z) (hz2 : z < 240) (hsg : sg < 256) (ha : a < 2000000) (h : Q (some (.int (nI z))) (am_sh, am_up (am_up v 12 z (nI (a * 256 + sg))) 11 6 (nI (z + 1)), w)) : am_run K I am_m (d + 1) 39 [.ref 11, .int (nI sg), .int (nI a)] (am_sh, v, w) 0 0 Q := by
  refine en_X3_put rfl ?_
  intro P hP
  ((repeat' first | refine hP _ ?_ | fail); try dsimp only)
  rw [hz]
  refine ⟨fun c => absurd c (nI_ge (b := 240) hz2 (by omega)), fun _ => ?_⟩
  ((repeat' first | refine hP _ ?_ | fail); try dsimp only)
  rw [hz, pc_or ha hsg]
  refine ⟨vp_in_nI (by omega) (by omega), ?_⟩
  dsimp only
  rw [nI_clamp (by omega)]
  ((repeat' first | refine hP _ ?_ | fail); try dsimp only)
  rw [am_up_ne _ _ _ (show (11 : Nat) ≠ 12 by decide), hz, nI_1, am_up_eq, if_pos ⟨rfl, rfl⟩, nI_pred]
  exact h
set_option maxRecDepth 100000 in
set_option maxHeartbeats 4000000 in
theorem m_goOn {I : am_I} {x sg : Nat} (hz : v 11 6 = nI z) (hx : x < z) (hz2 : z ≤ 240) (hsg : sg < 256) (hx2 : v 12 x = nI sg) (h : Q none (am_sh, am_up v 12 x (nI (z * 256 + sg)), w)) : am_run K I am_m (d + 1) 40 [.ref 11, .int (nI x)] (am_sh, v, w) 0 0 Q := by
  refine en_X3_letGoOnHere rfl ?_
  intro P hP
  ((repeat' first | refine hP _ ?_ | fail); try dsimp only)
  refine ⟨fun c => absurd c (nI_pos (by omega)), fun _ => ?_⟩
  ((repeat' first | refine hP _ ?_ | fail); try dsimp only)
  rw [hz]
  refine ⟨fun c => absurd c (nI_ge hx (by omega)), fun _ => ?_⟩
  ((repeat' first | refine hP _ ?_ | fail); try dsimp only)
  refine ⟨vp_in_nI (by omega) (by omega), ?_⟩
  ((repeat' first | refine hP _ ?_ | fail); try dsimp only)
  rw [nI_clamp (by omega), hx2, hz, pk_andN (by omega) 8 (by decide), show sg % 2 ^ 8 = sg by omega, pc_or (by omega) hsg]
  refine ⟨vp_in_nI (by omega) (by omega), ?_⟩
  dsimp only
  rw [nI_clamp (by omega)]
  ((repeat' first | refine hP _ ?_ | fail); try dsimp only)
  exact h
theorem lr_take (h : lr_pre v T n p oo z) (hp : p < n) (x : Int32) : lr_fr v (am_up (am_up v 10 4 x) 10 3 (nI (p + 1))) z ∧ lr_pre (am_up (am_up v 10 4 x) 10 3 (nI (p + 1))) T n (p + 1) oo z := by
  refine ⟨(lr_fr.rf.u10 (by omega) x).u10 (by omega) _, take_rd rdr10 h.1 x hp, ⟨?_, ?_⟩, by have := h.2.2.1; omega, h.2.2.2⟩
  · rw [am_up_eq, if_neg (by decide), am_up_eq, if_neg (by decide)]
    exact h.2.1.1
  · rw [am_up_ne _ _ _ (by decide), am_up_ne _ _ _ (by decide)]
    exact h.2.1.2
/-- a piece put -/
theorem lr_put (h : lr_pre v T n p oo z) (hz : z < p) (y : Int32) : lr_fr v (am_up (am_up v 12 z y) 11 6 (nI (z + 1))) z ∧ lr_pre (am_up (am_up v 12 z y) 11 6 (nI (z + 1))) T n p oo (z + 1) ∧ am_up (am_up v 12 z y) 11 6 (nI (z + 1)) 12 z = y := by
  refine ⟨⟨fun c a b e => by rw [am_up_ne _ _ _ b, am_up_ne _ _ _ e], fun j _ _ _ _ => by rw [am_up_ne _ _ _ (by decide), am_up_ne _ _ _ (by decide)], fun j a => by rw [am_up_eq, if_neg (fun q => a q.2), am_up_ne _ _ _ (by decide)], fun i hi => by rw [am_up_ne _ _ _ (by decide), am_up_eq, if_neg (fun q => by have := q.2; omega)]⟩, ⟨?_, ⟨?_, ?_⟩, hz, h.2.2.2⟩, ?_⟩
  · exact h.1.o (by rw [am_up_ne _ _ _ (by decide), am_up_ne _ _ _ (by decide)]) (by rw [am_up_ne _ _ _ (by decide), am_up_ne _ _ _ (by decide)]) (by rw [am_up_ne _ _ _ (by decide), am_up_ne _ _ _ (by decide)])
  · rw [am_up_ne _ _ _ (by decide), am_up_ne _ _ _ (by decide)]
    exact h.2.1.1
  · rw [am_up_eq, if_pos ⟨rfl, rfl⟩]
  · rw [am_up_ne _ _ _ (by decide), am_up_eq, if_pos ⟨rfl, rfl⟩]
theorem lr_open (h : lr_pre v T n p oo z) {o' : Nat} (ho : o' ≤ 6) : lr_fr v (am_up v 10 6 (nI o')) z ∧ lr_pre (am_up v 10 6 (nI o')) T n p o' z := by
  refine ⟨lr_fr.rf.u10 (by omega) _, ⟨⟨by rw [am_up_eq, if_neg (by decide)]; exact h.1.1.1, by rw [am_up_eq, if_neg (by decide)]; exact h.1.1.2⟩, by rw [am_up_ne _ _ _ (by decide)]; exact h.1.2.1, h.1.2.2.1, h.1.2.2.2.1, by rw [am_up_ne _ _ _ (by decide)]; exact h.1.2.2.2.2⟩, ⟨by rw [am_up_eq, if_pos ⟨rfl, rfl⟩], by rw [am_up_ne _ _ _ (by decide)]; exact h.2.1.2⟩, h.2.2.1, ho⟩
set_option maxRecDepth 100000 in
set_option maxHeartbeats 4000000 in
theorem m_opensC (h : lr_pre v T n p oo z) (hc : onl [40, 91, 33] (cc T n p) = true) (h5 : 6 ≤ oo → ∀ v', lr_fr v v' z → v' 10 2 = flt (5, p) → Q (some (.int 0)) (am_sh, v', w)) (h1 : oo < 6 → ∀ v', lr_fr v v' z → lr_pre v' T n (p + 1) (oo + 1) z → Q (some (.int 1)) (am_sh, v', w)) : am_run K am_idx am_m (d + 3) 60 [.ref 10] (am_sh, v, w) 0 0 Q := by
  have ho6 := h.2.2.2
  refine en_X4_opens rfl ?_
  intro P hP
  ((repeat' first | refine hP _ ?_ | fail); try dsimp only)
  rw [h.2.1.1]
  refine ⟨fun c => ?_, fun c => ?_⟩
  · have c : oo < 6 := (nI_ltI (b := 6) (by omega) (by omega)).mp c
    ((repeat' first | refine hP _ ?_ | fail); try dsimp only)
    rw [h.2.1.1, nI_1]
    obtain ⟨f1, p1⟩ := lr_open (o' := oo + 1) h (by omega)
    refine m_takesC rdr10 p1.1 am_idx_2684 (by decide) (by decide) (fun q => absurd (hc.symm.trans q) (by decide)) (fun _ hp => ?_)
    obtain ⟨f2, p2⟩ := lr_take p1 hp (cc T n p)
    ((repeat' first | refine hP _ ?_ | fail); try dsimp only)
    exact ⟨Or.inr rfl, h1 c _ (f1.tr f2 (Nat.le_refl _)) p2⟩
  · have c : 6 ≤ oo := Nat.le_of_not_lt (fun q => c (nI_lt (b := 6) q (by omega)))
    ((repeat' first | refine hP _ ?_ | fail); try dsimp only)
    rw [h.1.1.2]
    refine m_fails rdr10 ?_
    ((repeat' first | refine hP _ ?_ | fail); try dsimp only)
    exact ⟨Or.inl rfl, h5 c _ (lr_fr.rf.u10 (by omega) _) (by rw [am_up_eq, if_pos ⟨rfl, rfl⟩]; rfl)⟩
end M91
set_option maxRecDepth 100000 in
set_option maxHeartbeats 4000000 in
theorem lr_bracket {K : am_K} {w : am_X} {T : Nat → Int32} {n f p oo : Nat} (hc : cc T n p = 91) (hi : oo < 6 → LRc K w T n 56 7 (lpr T n f 3 (p + 1) (oo + 1)) (p + 1) (oo + 1)) : LRc K w T n 59 4 (lpr T n (f + 1) 0 p oo) p oo := by
  intro D z v Q hD hpre hE hO
  rw [lpr_0, if_pos hc] at hE hO
  refine en_X4_readBracket rfl ?_
  intro P hP
  ((repeat' first | refine hP _ ?_ | fail); try dsimp only)
  refine m_opensC hpre (by rw [hc]; decide) (fun h6 v' f1 h2 => ?_) (fun h6 v1 f1 p1 => ?_)
  · rw [if_pos h6] at hE
    ((repeat' first | refine hP _ ?_ | fail); try dsimp only)
    refine ⟨fun _ => ?_, fun c => absurd rfl c⟩
    ((repeat' first | refine hP _ ?_ | fail); try dsimp only)
    exact ⟨Or.inl rfl, hE (5, p) v' rfl f1 h2⟩
  · rw [if_neg (by omega)] at hE hO
    obtain ⟨D, rfl⟩ : ∃ D', D = D' + 4 := ⟨D - 4, by omega⟩
    ((repeat' first | refine hP _ ?_ | fail); try dsimp only)
    refine ⟨fun c => absurd c (by decide), fun _ => ?_⟩
    ((repeat' first | refine hP _ ?_ | fail); try dsimp only)
    refine hi h6 D z v1 _ (by omega) p1 (fun e v2 he f2 h2 => ?_) (fun q1 c1 v2 he f2 p2 g2 => ?_)
    · rw [he] at hE
      ((repeat' first | refine hP _ ?_ | fail); try dsimp only)
      refine ⟨fun c => absurd rfl c, fun _ => ?_⟩
      ((repeat' first | refine hP _ ?_ | fail); try dsimp only)
      exact ⟨Or.inl rfl, hE e v2 rfl (f1.tr f2 (Nat.le_refl _)) h2⟩
    · rw [he] at hE hO
      have f12 := f1.tr f2 (Nat.le_refl _)
      ((repeat' first | refine hP _ ?_ | fail); try dsimp only)
      refine ⟨fun _ => ?_, fun c => absurd c (by decide)⟩
      ((repeat' first | refine hP _ ?_ | fail); try dsimp only)
      refine m_takesC rdr10 p2.1 am_idx_2685 (by decide) (by decide) (fun q => ?_) (fun q hlt => ?_)
      · have hE := hE (1, q1)
        unfold lpb at hE
        dsimp only at hE
        rw [if_neg (on1n.mp q)] at hE
        ((repeat' first | refine hP _ ?_ | fail); try dsimp only)
        refine ⟨fun c => absurd rfl c, fun _ => ?_⟩
        ((repeat' first | refine hP _ ?_ | fail); try dsimp only)
        refine m_cannot rdr10 p2.1.1.2 ?_
        ((repeat' first | refine hP _ ?_ | fail); try dsimp only)
        exact ⟨Or.inl rfl, hE _ rfl (f12.u10 (by omega) _) (by rw [am_up_eq, if_pos ⟨rfl, rfl⟩])⟩
      · have hO := hO (q1 + 1) c1
        unfold lpb at hO
        dsimp only at hO
        rw [if_pos (on1.mp q)] at hO
        obtain ⟨f3, p3⟩ := lr_take p2 hlt (cc T n q1)
        obtain ⟨f4, p4⟩ := lr_open (o' := oo) p3 (by omega)
        ((repeat' first | refine hP _ ?_ | fail); try dsimp only)
        refine ⟨fun _ => ?_, fun c => absurd c (by decide)⟩
        ((repeat' first | refine hP _ ?_ | fail); try dsimp only)
        rw [p3.2.1.1, nI_pred]
        refine ⟨Or.inr rfl, hO _ rfl ((f12.tr f3 (by omega)).tr f4 (by omega)) p4 (g2.of (fun i hz hi => ?_))⟩
        rw [f4.2.2.2 i hi, f3.2.2.2 i hi]
set_option maxRecDepth 100000 in
set_option maxHeartbeats 4000000 in
theorem lr_group {K : am_K} {w : am_X} {T : Nat → Int32} {n f p oo : Nat} (hc : cc T n p = 40) (hi : oo < 6 → LRc K w T n 52 10 (lpr T n f 8 (p + 1) (oo + 1)) (p + 1) (oo + 1)) : LRc K w T n 51 7 (lpr T n (f + 1) 5 p oo) p oo := by
  intro D z v Q hD hpre hE hO
  rw [lpr_5, if_pos hc] at hE hO
  refine en_X4_readGroup rfl ?_
  intro P hP
  ((repeat' first | refine hP _ ?_ | fail); try dsimp only)
  refine m_opensC hpre (by rw [hc]; decide) (fun h6 v' f1 h2 => ?_) (fun h6 v1 f1 p1 => ?_)
  · rw [if_pos h6] at hE
    ((repeat' first | refine hP _ ?_ | fail); try dsimp only)
    refine ⟨fun _ => ?_, fun c => absurd rfl c⟩
    ((repeat' first | refine hP _ ?_ | fail); try dsimp only)
    exact ⟨Or.inl rfl, hE (5, p) v' rfl f1 h2⟩
  · rw [if_neg (by omega)] at hE hO
    obtain ⟨D, rfl⟩ : ∃ D', D = D' + 4 := ⟨D - 4, by omega⟩
    ((repeat' first | refine hP _ ?_ | fail); try dsimp only)
    refine ⟨fun c => absurd c (by decide), fun _ => ?_⟩
    ((repeat' first | refine hP _ ?_ | fail); try dsimp only)
    refine hi h6 D z v1 _ (by omega) p1 (fun e v2 he f2 h2 => ?_) (fun q1 c1 v2 he f2 p2 g2 => ?_)
    · rw [he] at hE
      ((repeat' first | refine hP _ ?_ | fail); try dsimp only)
      refine ⟨fun c => absurd rfl c, fun _ => ?_⟩
      ((repeat' first | refine hP _ ?_ | fail); try dsimp only)
      exact ⟨Or.inl rfl, hE e v2 rfl (f1.tr f2 (Nat.le_refl _)) h2⟩
    · rw [he] at hE hO
      have f12 := f1.tr f2 (Nat.le_refl _)
      ((repeat' first | refine hP _ ?_ | fail); try dsimp only)
      refine ⟨fun _ => ?_, fun c => absurd c (by decide)⟩
      ((repeat' first | refine hP _ ?_ | fail); try dsimp only)
      refine m_takesC rdr10 p2.1 am_idx_2736 (by decide) (by decide) (fun q => ?_) (fun q hlt => ?_)
      · have hE := hE (1, q1)
        unfold lpb at hE
        dsimp only at hE
        rw [if_neg (on1n.mp q)] at hE
        ((repeat' first | refine hP _ ?_ | fail); try dsimp only)
        refine ⟨fun c => absurd rfl c, fun _ => ?_⟩
        ((repeat' first | refine hP _ ?_ | fail); try dsimp only)
        refine m_cannot rdr10 p2.1.1.2 ?_
        ((repeat' first | refine hP _ ?_ | fail); try dsimp only)
        exact ⟨Or.inl rfl, hE _ rfl (f12.u10 (by omega) _) (by rw [am_up_eq, if_pos ⟨rfl, rfl⟩])⟩
      · have hO := hO (q1 + 1) c1
        unfold lpb at hO
        dsimp only at hO
        rw [if_pos (on1.mp q)] at hO
        obtain ⟨f3, p3⟩ := lr_take p2 hlt (cc T n q1)
        obtain ⟨f4, p4⟩ := lr_open (o' := oo) p3 (by omega)
        ((repeat' first | refine hP _ ?_ | fail); try dsimp only)
        refine ⟨fun _ => ?_, fun c => absurd c (by decide)⟩
        ((repeat' first | refine hP _ ?_ | fail); try dsimp only)
        rw [p3.2.1.1, nI_pred]
        refine ⟨Or.inr rfl, hO _ rfl ((f12.tr f3 (by omega)).tr f4 (by omega)) p4 (g2.of (fun i hz hi => ?_))⟩
        rw [f4.2.2.2 i hi, f3.2.2.2 i hi]
set_option maxRecDepth 100000 in
set_option maxHeartbeats 4000000 in
theorem lr_factor {K : am_K} {w : am_X} {T : Nat → Int32} {n f p oo : Nat} (hi : oo < 6 → cc T n p = 91 → LRc K w T n 56 7 (lpr T n f 3 (p + 1) (oo + 1)) (p + 1) (oo + 1)) : LRc K w T n 58 5 (lpr T n (f + 1) 0 p oo) p oo := by
  intro D z v Q hD hpre hE hO
  have hn := hpre.1.2.2.1.1
  have hpn := hpre.1.2.2.1.2
  have hzp := hpre.2.2.1
  refine en_X4_readFactor rfl ?_
  intro P hP
  ((repeat' first | refine hP _ ?_ | fail); try dsimp only)
  refine m_isOn rdr10 hpre.1 am_idx_2675 (by decide) (by decide) ?_
  ((repeat' first | refine hP _ ?_ | fail); try dsimp only)
  cases ho : onl [91] (cc T n p) with
  | true =>
    refine ⟨fun c => absurd c (by decide), fun _ => ?_⟩
    ((repeat' first | refine hP _ ?_ | fail); try dsimp only)
    refine lr_bracket (on1.mp ho) (fun h6 => hi h6 (on1.mp ho)) D z v _ hD hpre (fun e v' he f1 h2 => ?_) (fun p1 c v' he f1 q1 g1 => ?_)
    · ((repeat' first | refine hP _ ?_ | fail); try dsimp only)
      exact ⟨Or.inl rfl, hE e v' he f1 h2⟩
    · ((repeat' first | refine hP _ ?_ | fail); try dsimp only)
      exact ⟨Or.inr rfl, hO p1 c v' he f1 q1 g1⟩
  | false =>
    rw [lpr_0, if_neg (on1n.mp ho)] at hE hO
    refine ⟨fun _ => ?_, fun c => absurd rfl c⟩
    ((repeat' first | refine hP _ ?_ | fail); try dsimp only)
    refine m_takesC rdr10 hpre.1 am_idx_2686 (by decide) lt_m1 (fun hl => ?_) (fun hl hlt => ?_)
    · rw [if_neg (by rw [hl]; decide)] at hE hO
      ((repeat' first | refine hP _ ?_ | fail); try dsimp only)
      refine ⟨fun _ => ?_, fun c => absurd rfl c⟩
      ((repeat' first | refine hP _ ?_ | fail); try dsimp only)
      refine m_readNum (M := 5) rdr10 hpre.1 am_idx_2698 (by decide) (fun e v' he f1 h2 => ?_) (fun p1 x v' he f1 h3 hp1 h4 => ?_)
      · rw [he] at hE
        ((repeat' first | refine hP _ ?_ | fail); try dsimp only)
        refine ⟨fun c => absurd rfl c, fun _ => ?_⟩
        ((repeat' first | refine hP _ ?_ | fail); try dsimp only)
        exact ⟨Or.inl rfl, hE e v' rfl ⟨fun c a _ _ => f1.1 c a, fun j a b c _ => f1.2 j a b c, fun j _ => by rw [f1.1 11 (by decide)], fun i _ => by rw [f1.1 12 (by decide)]⟩ h2⟩
      · rw [he] at hO
        obtain ⟨l1, l2, l3⟩ := numF_ok hpn he
        have fr1 : lr_fr v v' z := ⟨fun c a _ _ => f1.1 c a, fun j a b c _ => f1.2 j a b c, fun j _ => by rw [f1.1 11 (by decide)], fun i _ => by rw [f1.1 12 (by decide)]⟩
        have pr1 : lr_pre v' T n p1 oo z := ⟨hpre.1.of rdr10 f1 h3 hp1, ⟨by rw [f1.2 6 (by decide) (by decide) (by decide)]; exact hpre.2.1.1, by rw [f1.1 11 (by decide)]; exact hpre.2.1.2⟩, by omega, hpre.2.2.2⟩
        obtain ⟨f2, p2, e2⟩ := lr_put pr1 (show z < p1 by omega) (nI (x * 256 + 35))
        ((repeat' first | refine hP _ ?_ | fail); try dsimp only)
        refine ⟨fun _ => ?_, fun c => absurd c (by decide)⟩
        ((repeat' first | refine hP _ ?_ | fail); try dsimp only)
        rw [h4]
        refine m_put (sg := 35) pr1.2.1.2 (by omega) (by omega) (by omega) ?_
        ((repeat' first | refine hP _ ?_ | fail); try dsimp only)
        exact ⟨Or.inr rfl, hO p1 [(0, x)] _ rfl (fr1.tr f2 (Nat.le_refl _)) p2 (cdC.one (by rw [e2]; rfl))⟩
    · rw [if_pos hl] at hO
      obtain ⟨j, hj, e1, e2⟩ := lt_i hl
      obtain ⟨f1, p1⟩ := lr_take hpre hlt (cc T n p)
      obtain ⟨f2, p2, e3⟩ := lr_put p1 (show z < p + 1 by omega) (nI (j * 256 + 64))
      have hT := hpre.1.2.2.2.1 p hlt
      ((repeat' first | refine hP _ ?_ | fail); try dsimp only)
      refine ⟨fun c => absurd c (by decide), fun _ => ?_⟩
      ((repeat' first | refine hP _ ?_ | fail); try dsimp only)
      rw [take_4, cc_lt hlt, (ch_id hT.1 hT.2).1]
      refine ⟨⟨hT.1, (ch_id hT.1 hT.2).2⟩, ?_⟩
      ((repeat' first | refine hP _ ?_ | fail); try dsimp only)
      rw [show am_sfind (T p) 0 [107, 112, 113, 98, 99, 111, 118, 97, 116, 114] = nI j by rw [show T p = cc T n p from (cc_lt hlt).symm]; exact e1]
      rw [cc_lt hlt] at p1 f1 f2 p2 e3
      refine m_put (sg := 64) p1.2.1.2 (by omega) (by omega) (by omega) ?_
      ((repeat' first | refine hP _ ?_ | fail); try dsimp only)
      exact ⟨Or.inr rfl, hO (p + 1) [(1, ltI (cc T n p))] _ rfl (f1.tr f2 (Nat.le_refl _)) p2 (cdC.one (by rw [e3, e2]; rfl))⟩
set_option maxRecDepth 100000 in
set_option maxHeartbeats 4000000 in
theorem lr_term {K : am_K} {w : am_X} {T : Nat → Int32} {n F : Nat} (hi : ∀ g, g < F → ∀ p oo, p ≤ n → (∃ r, lpr T n g 0 p oo = some r) → LRc K w T n 58 5 (lpr T n g 0 p oo) p oo) {p oo : Nat} (hsome : ∃ r, lpr T n F 1 p oo = some r) : LRc K w T n 57 6 (lpr T n F 1 p oo) p oo := by
  intro D z v Q hD hpre hE hO
  obtain ⟨F, rfl⟩ : ∃ F', F = F' + 1 := by
    cases F with
    | zero => exact absurd hsome (by simp [lpr])
    | succ F => exact ⟨F, rfl⟩
  have hn := hpre.1.2.2.1.1
  have hpn := hpre.1.2.2.1.2
  have hzp := hpre.2.2.1
  rw [lpr_1] at hE hO hsome
  refine en_X4_readTerm rfl ?_
  intro P hP
  -- what is left
  have key : ∀ (g : Nat), g < F + 1 → ∀ (mr p1 z1 : Nat) (u : am_V) (l2 : Option Value), (∃ r, lpr T n g 2 p1 oo = some r) → mr < p1 → lr_pre u T n p1 oo z1 → (∀ e u', lpr T n g 2 p1 oo = some (.error e) → lr_fr u u' z1 → u' 10 2 = flt e → Q (some (.int 0)) (am_sh, u', w)) → (∀ p2 c2 u', lpr T n g 2 p1 oo = some (.ok (p2, c2)) → lr_fr u u' z1 → lr_pre u' T n p2 oo (z1 + c2.length) → cdC (u' 12) z1 c2 → Q (some (.int 1)) (am_sh, u', w)) → P (cd_X4_readTerm.drop 7, [some (.ref 10), some (.int (nI mr)), l2], [], (am_sh, u, w), 0, 0) := by
    intro g
    induction g with
    | zero =>
      intro _ mr p1 z1 u l2 hs
      exact absurd hs (by simp [lpr])
    | succ g ih =>
      intro hg mr p1 z1 u l2 hs hmr hu hE hO
      have hp1n := hu.1.2.2.1.2
      have hz1 := hu.2.2.1
      rw [lpr_2] at hE hO hs
      ((repeat' first | refine hP _ ?_ | fail); try dsimp only)
      refine ⟨fun c => absurd c (nI_ge (b := 240) (by omega) (by omega)), fun _ => ?_⟩
      ((repeat' first | refine hP _ ?_ | fail); try dsimp only)
      refine m_takesC rdr10 hu.1 am_idx_2701 (by decide) mu_m1 (fun q => ?_) (fun q hlt => ?_)
      · rw [if_neg (by rw [q]; decide)] at hO
        ((repeat' first | refine hP _ ?_ | fail); try dsimp only)
        refine ⟨fun _ => ?_, fun c => absurd rfl c⟩
        ((repeat' first | refine hP _ ?_ | fail); try dsimp only)
        exact ⟨Or.inr rfl, hO p1 [] u rfl lr_fr.rf hu cdC.nil⟩
      · rw [if_pos q] at hE hO hs
        have hk := mu_k q
        obtain ⟨f1, u1⟩ := lr_take hu hlt (cc T n p1)
        have hs1 : ∃ r, lpr T n g 0 (p1 + 1) oo = some r := by
          obtain ⟨r, hr⟩ := hs
          unfold lpb at hr
          cases h : lpr T n g 0 (p1 + 1) oo with
          | none =>
            rw [h] at hr
            exact absurd hr (by simp)
          | some x => exact ⟨x, rfl⟩
        ((repeat' first | refine hP _ ?_ | fail); try dsimp only)
        refine ⟨fun c => absurd c (by decide), fun _ => ?_⟩
        ((repeat' first | refine hP _ ?_ | fail); try dsimp only)
        rw [take_4]
        refine hi g (by omega) (p1 + 1) oo hlt hs1 D z1 _ _ hD u1 (fun e v2 he f2 h2 => ?_) (fun q1 c1 v2 he f2 p2 g2 => ?_)
        · rw [he] at hE
          ((repeat' first | refine hP _ ?_ | fail); try dsimp only)
          refine ⟨fun c => absurd rfl c, fun _ => ?_⟩
          ((repeat' first | refine hP _ ?_ | fail); try dsimp only)
          exact ⟨Or.inl rfl, hE e v2 rfl (f1.tr f2 (Nat.le_refl _)) h2⟩
        · have ln := lp_len g 0 (p1 + 1) oo q1 c1 hlt he
          rw [he] at hE hO hs
          have f12 := f1.tr f2 (Nat.le_refl _)
          obtain ⟨f3, p3, e3⟩ := lr_put p2 (show z1 + c1.length < q1 by omega) (nI (0 * 256 + lc_sg (sgK (cc T n p1))))
          have hs2 : ∃ r, lpr T n g 2 q1 oo = some r := by
            obtain ⟨r, hr⟩ := hs
            cases h : lpr T n g 2 q1 oo with
            | none =>
              unfold lpb at hr
              dsimp only at hr
              rw [h] at hr
              exact absurd hr (by simp [lpb])
            | some x => exact ⟨x, rfl⟩
          ((repeat' first | refine hP _ ?_ | fail); try dsimp only)
          refine ⟨fun _ => ?_, fun c => absurd c (by decide)⟩
          ((repeat' first | refine hP _ ?_ | fail); try dsimp only)
          rw [hk.2.2]
          refine m_put (a := 0) (sg := lc_sg (sgK (cc T n p1))) p2.2.1.2 (by omega) (lc_sg_lt _) (by omega) ?_
          ((iterate 3 refine hP _ ?_); try dsimp only)
          rw [nI_1]
          refine ih (by omega) (mr + 1) q1 (z1 + c1.length + 1) _ _ hs2 (by omega) p3 (fun e u' he' f' h9 => ?_) (fun p4 c3 u' he' f' p' g' => ?_)
          · refine hE e u' ?_ ((f12.tr f3 (by omega)).tr f' (by omega)) h9
            show lpb (lpr T n g 2 q1 oo) _ = _
            rw [he']
            rfl
          · refine hO p4 (c1 ++ (sgK (cc T n p1), 0) :: c3) u' ?_ ((f12.tr f3 (by omega)).tr f' (by omega)) ?_ ?_
            · show lpb (lpr T n g 2 q1 oo) _ = _
              rw [he']
              rfl
            · rw [List.length_append, List.length_cons, show z1 + (c1.length + (c3.length + 1)) = z1 + c1.length + 1 + c3.length by omega]
              exact p'
            · refine cdC.app (g2.of (fun i hz hi => ?_)) ?_
              · rw [f'.2.2.2 i (by omega), f3.2.2.2 i (by omega)]
              · refine cdC.app (c1 := [(sgK (cc T n p1), 0)]) (cdC.one ?_) g'
                rw [f'.2.2.2 _ (by omega), e3]
                unfold lc_C lc_tg
                rw [if_neg (by dsimp only; omega)]
  have hs0 : ∃ r, lpr T n F 0 p oo = some r := by
    obtain ⟨r, hr⟩ := hsome
    unfold lpb at hr
    cases h : lpr T n F 0 p oo with
    | none =>
      rw [h] at hr
      exact absurd hr (by simp)
    | some x => exact ⟨x, rfl⟩
  ((repeat' first | refine hP _ ?_ | fail); try dsimp only)
  refine hi F (by omega) p oo hpn hs0 D z v _ hD hpre (fun e v2 he f2 h2 => ?_) (fun q1 c1 v2 he f2 p2 g2 => ?_)
  · rw [he] at hE
    ((repeat' first | refine hP _ ?_ | fail); try dsimp only)
    refine ⟨fun c => absurd rfl c, fun _ => ?_⟩
    ((repeat' first | refine hP _ ?_ | fail); try dsimp only)
    exact ⟨Or.inl rfl, hE e v2 rfl f2 h2⟩
  · have ln := lp_len F 0 p oo q1 c1 hpn he
    have ln2 := ln.2.2 (by omega)
    rw [he] at hE hO hsome
    have hs2 : ∃ r, lpr T n F 2 q1 oo = some r := by
      obtain ⟨r, hr⟩ := hsome
      cases h : lpr T n F 2 q1 oo with
      | none =>
        unfold lpb at hr
        dsimp only at hr
        rw [h] at hr
        exact absurd hr (by simp [lpb])
      | some x => exact ⟨x, rfl⟩
    ((repeat' first | refine hP _ ?_ | fail); try dsimp only)
    refine ⟨fun _ => ?_, fun c => absurd c (by decide)⟩
    ((iterate 2 refine hP _ ?_); try dsimp only)
    refine key F (by omega) 0 q1 (z + c1.length) v2 none hs2 (by omega) p2 (fun e u' he' f' h9 => ?_) (fun p3 c3 u' he' f' p' g' => ?_)
    · refine hE e u' ?_ (f2.tr f' (by omega)) h9
      show lpb (lpr T n F 2 q1 oo) _ = _
      rw [he']
      rfl
    · refine hO p3 (c1 ++ c3) u' ?_ (f2.tr f' (by omega)) ?_ ((g2.of (fun i _ hi => f'.2.2.2 i hi)).app g')
      · show lpb (lpr T n F 2 q1 oo) _ = _
        rw [he']
        rfl
      · rw [List.length_append, ← Nat.add_assoc]
        exact p'
set_option maxRecDepth 100000 in
set_option maxHeartbeats 4000000 in
theorem lr_sum {K : am_K} {w : am_X} {T : Nat → Int32} {n F : Nat} (hi : ∀ g, g < F → ∀ p oo, p ≤ n → (∃ r, lpr T n g 1 p oo = some r) → LRc K w T n 57 6 (lpr T n g 1 p oo) p oo) {p oo : Nat} (hsome : ∃ r, lpr T n F 3 p oo = some r) : LRc K w T n 56 7 (lpr T n F 3 p oo) p oo := by
  intro D z v Q hD hpre hE hO
  obtain ⟨F, rfl⟩ : ∃ F', F = F' + 1 := by
    cases F with
    | zero => exact absurd hsome (by simp [lpr])
    | succ F => exact ⟨F, rfl⟩
  have hn := hpre.1.2.2.1.1
  have hpn := hpre.1.2.2.1.2
  have hzp := hpre.2.2.1
  rw [lpr_3] at hE hO hsome
  refine en_X4_readSum rfl ?_
  intro P hP
  -- what is left
  have key : ∀ (g : Nat), g < F + 1 → ∀ (mr p1 z1 : Nat) (u : am_V) (l2 : Option Value), (∃ r, lpr T n g 4 p1 oo = some r) → mr < p1 → lr_pre u T n p1 oo z1 → (∀ e u', lpr T n g 4 p1 oo = some (.error e) → lr_fr u u' z1 → u' 10 2 = flt e → Q (some (.int 0)) (am_sh, u', w)) → (∀ p2 c2 u', lpr T n g 4 p1 oo = some (.ok (p2, c2)) → lr_fr u u' z1 → lr_pre u' T n p2 oo (z1 + c2.length) → cdC (u' 12) z1 c2 → Q (some (.int 1)) (am_sh, u', w)) → P (cd_X4_readSum.drop 7, [some (.ref 10), some (.int (nI mr)), l2], [], (am_sh, u, w), 0, 0) := by
    intro g
    induction g with
    | zero =>
      intro _ mr p1 z1 u l2 hs
      exact absurd hs (by simp [lpr])
    | succ g ih =>
      intro hg mr p1 z1 u l2 hs hmr hu hE hO
      have hp1n := hu.1.2.2.1.2
      have hz1 := hu.2.2.1
      rw [lpr_4] at hE hO hs
      ((repeat' first | refine hP _ ?_ | fail); try dsimp only)
      refine ⟨fun c => absurd c (nI_ge (b := 240) (by omega) (by omega)), fun _ => ?_⟩
      ((repeat' first | refine hP _ ?_ | fail); try dsimp only)
      refine m_takesC rdr10 hu.1 am_idx_2702 (by decide) ad_m1 (fun q => ?_) (fun q hlt => ?_)
      · rw [if_neg (by rw [q]; decide)] at hO
        ((repeat' first | refine hP _ ?_ | fail); try dsimp only)
        refine ⟨fun _ => ?_, fun c => absurd rfl c⟩
        ((repeat' first | refine hP _ ?_ | fail); try dsimp only)
        exact ⟨Or.inr rfl, hO p1 [] u rfl lr_fr.rf hu cdC.nil⟩
      · rw [if_pos q] at hE hO hs
        have hk := ad_k q
        obtain ⟨f1, u1⟩ := lr_take hu hlt (cc T n p1)
        have hs1 : ∃ r, lpr T n g 1 (p1 + 1) oo = some r := by
          obtain ⟨r, hr⟩ := hs
          unfold lpb at hr
          cases h : lpr T n g 1 (p1 + 1) oo with
          | none =>
            rw [h] at hr
            exact absurd hr (by simp)
          | some x => exact ⟨x, rfl⟩
        ((repeat' first | refine hP _ ?_ | fail); try dsimp only)
        refine ⟨fun c => absurd c (by decide), fun _ => ?_⟩
        ((repeat' first | refine hP _ ?_ | fail); try dsimp only)
        rw [take_4]
        refine hi g (by omega) (p1 + 1) oo hlt hs1 D z1 _ _ hD u1 (fun e v2 he f2 h2 => ?_) (fun q1 c1 v2 he f2 p2 g2 => ?_)
        · rw [he] at hE
          ((repeat' first | refine hP _ ?_ | fail); try dsimp only)
          refine ⟨fun c => absurd rfl c, fun _ => ?_⟩
          ((repeat' first | refine hP _ ?_ | fail); try dsimp only)
          exact ⟨Or.inl rfl, hE e v2 rfl (f1.tr f2 (Nat.le_refl _)) h2⟩
        · have ln := lp_len g 1 (p1 + 1) oo q1 c1 hlt he
          rw [he] at hE hO hs
          have f12 := f1.tr f2 (Nat.le_refl _)
          obtain ⟨f3, p3, e3⟩ := lr_put p2 (show z1 + c1.length < q1 by omega) (nI (0 * 256 + lc_sg (sgK (cc T n p1))))
          have hs2 : ∃ r, lpr T n g 4 q1 oo = some r := by
            obtain ⟨r, hr⟩ := hs
            cases h : lpr T n g 4 q1 oo with
            | none =>
              unfold lpb at hr
              dsimp only at hr
              rw [h] at hr
              exact absurd hr (by simp [lpb])
            | some x => exact ⟨x, rfl⟩
          ((repeat' first | refine hP _ ?_ | fail); try dsimp only)
          refine ⟨fun _ => ?_, fun c => absurd c (by decide)⟩
          ((repeat' first | refine hP _ ?_ | fail); try dsimp only)
          rw [hk.2.2]
          refine m_put (a := 0) (sg := lc_sg (sgK (cc T n p1))) p2.2.1.2 (by omega) (lc_sg_lt _) (by omega) ?_
          ((iterate 3 refine hP _ ?_); try dsimp only)
          rw [nI_1]
          refine ih (by omega) (mr + 1) q1 (z1 + c1.length + 1) _ _ hs2 (by omega) p3 (fun e u' he' f' h9 => ?_) (fun p4 c3 u' he' f' p' g' => ?_)
          · refine hE e u' ?_ ((f12.tr f3 (by omega)).tr f' (by omega)) h9
            show lpb (lpr T n g 4 q1 oo) _ = _
            rw [he']
            rfl
          · refine hO p4 (c1 ++ (sgK (cc T n p1), 0) :: c3) u' ?_ ((f12.tr f3 (by omega)).tr f' (by omega)) ?_ ?_
            · show lpb (lpr T n g 4 q1 oo) _ = _
              rw [he']
              rfl
            · rw [List.length_append, List.length_cons, show z1 + (c1.length + (c3.length + 1)) = z1 + c1.length + 1 + c3.length by omega]
              exact p'
            · refine cdC.app (g2.of (fun i hz hi => ?_)) ?_
              · rw [f'.2.2.2 i (by omega), f3.2.2.2 i (by omega)]
              · refine cdC.app (c1 := [(sgK (cc T n p1), 0)]) (cdC.one ?_) g'
                rw [f'.2.2.2 _ (by omega), e3]
                unfold lc_C lc_tg
                rw [if_neg (by dsimp only; omega)]
  have hs0 : ∃ r, lpr T n F 1 p oo = some r := by
    obtain ⟨r, hr⟩ := hsome
    unfold lpb at hr
    cases h : lpr T n F 1 p oo with
    | none =>
      rw [h] at hr
      exact absurd hr (by simp)
    | some x => exact ⟨x, rfl⟩
  ((repeat' first | refine hP _ ?_ | fail); try dsimp only)
  refine hi F (by omega) p oo hpn hs0 D z v _ hD hpre (fun e v2 he f2 h2 => ?_) (fun q1 c1 v2 he f2 p2 g2 => ?_)
  · rw [he] at hE
    ((repeat' first | refine hP _ ?_ | fail); try dsimp only)
    refine ⟨fun c => absurd rfl c, fun _ => ?_⟩
    ((repeat' first | refine hP _ ?_ | fail); try dsimp only)
    exact ⟨Or.inl rfl, hE e v2 rfl f2 h2⟩
  · have ln := lp_len F 1 p oo q1 c1 hpn he
    have ln2 := ln.2.2 (by omega)
    rw [he] at hE hO hsome
    have hs2 : ∃ r, lpr T n F 4 q1 oo = some r := by
      obtain ⟨r, hr⟩ := hsome
      cases h : lpr T n F 4 q1 oo with
      | none =>
        unfold lpb at hr
        dsimp only at hr
        rw [h] at hr
        exact absurd hr (by simp [lpb])
      | some x => exact ⟨x, rfl⟩
    ((repeat' first | refine hP _ ?_ | fail); try dsimp only)
    refine ⟨fun _ => ?_, fun c => absurd c (by decide)⟩
    ((iterate 2 refine hP _ ?_); try dsimp only)
    refine key F (by omega) 0 q1 (z + c1.length) v2 none hs2 (by omega) p2 (fun e u' he' f' h9 => ?_) (fun p3 c3 u' he' f' p' g' => ?_)
    · refine hE e u' ?_ (f2.tr f' (by omega)) h9
      show lpb (lpr T n F 4 q1 oo) _ = _
      rw [he']
      rfl
    · refine hO p3 (c1 ++ c3) u' ?_ (f2.tr f' (by omega)) ?_ ((g2.of (fun i _ hi => f'.2.2.2 i hi)).app g')
      · show lpb (lpr T n F 4 q1 oo) _ = _
        rw [he']
        rfl
      · rw [List.length_append, ← Nat.add_assoc]
        exact p'
set_option maxRecDepth 100000 in
set_option maxHeartbeats 4000000 in
theorem lr_part {K : am_K} {w : am_X} {T : Nat → Int32} {n F : Nat} (hi : ∀ g, g < F → ∀ p oo, p ≤ n → (∃ r, lpr T n g 5 p oo = some r) → LRc K w T n 54 8 (lpr T n g 5 p oo) p oo) {p oo : Nat} (hsome : ∃ r, lpr T n F 6 p oo = some r) : LRc K w T n 53 9 (lpr T n F 6 p oo) p oo := by
  intro D z v Q hD hpre hE hO
  obtain ⟨F, rfl⟩ : ∃ F', F = F' + 1 := by
    cases F with
    | zero => exact absurd hsome (by simp [lpr])
    | succ F => exact ⟨F, rfl⟩
  have hn := hpre.1.2.2.1.1
  have hpn := hpre.1.2.2.1.2
  have hzp := hpre.2.2.1
  rw [lpr_6] at hE hO hsome
  refine en_X4_readPart rfl ?_
  intro P hP
  -- what is left
  have key : ∀ (g : Nat), g < F + 1 → ∀ (mr p1 z1 : Nat) (u : am_V) (l2 : Option Value), (∃ r, lpr T n g 7 p1 oo = some r) → mr < p1 → lr_pre u T n p1 oo z1 → (∀ e u', lpr T n g 7 p1 oo = some (.error e) → lr_fr u u' z1 → u' 10 2 = flt e → Q (some (.int 0)) (am_sh, u', w)) → (∀ p2 c2 u', lpr T n g 7 p1 oo = some (.ok (p2, c2)) → lr_fr u u' z1 → lr_pre u' T n p2 oo (z1 + c2.length) → cdC (u' 12) z1 c2 → Q (some (.int 1)) (am_sh, u', w)) → P (cd_X4_readPart.drop 7, [some (.ref 10), some (.int (nI mr)), l2], [], (am_sh, u, w), 0, 0) := by
    intro g
    induction g with
    | zero =>
      intro _ mr p1 z1 u l2 hs
      exact absurd hs (by simp [lpr])
    | succ g ih =>
      intro hg mr p1 z1 u l2 hs hmr hu hE hO
      have hp1n := hu.1.2.2.1.2
      have hz1 := hu.2.2.1
      rw [lpr_7] at hE hO hs
      ((repeat' first | refine hP _ ?_ | fail); try dsimp only)
      refine ⟨fun c => absurd c (nI_ge (b := 240) (by omega) (by omega)), fun _ => ?_⟩
      ((repeat' first | refine hP _ ?_ | fail); try dsimp only)
      refine m_takesC rdr10 hu.1 am_idx_2730 (by decide) (by decide) (fun q => ?_) (fun q hlt => ?_)
      · rw [if_neg (on1n.mp q)] at hO
        ((repeat' first | refine hP _ ?_ | fail); try dsimp only)
        refine ⟨fun _ => ?_, fun c => absurd rfl c⟩
        ((repeat' first | refine hP _ ?_ | fail); try dsimp only)
        exact ⟨Or.inr rfl, hO p1 [] u rfl lr_fr.rf hu cdC.nil⟩
      · rw [if_pos (on1.mp q)] at hE hO hs
        obtain ⟨f1, u1⟩ := lr_take hu hlt (cc T n p1)
        obtain ⟨f2, u2, e2⟩ := lr_put u1 (show z1 < p1 + 1 by omega) (nI (0 * 256 + 38))
        have f12 := f1.tr f2 (Nat.le_refl _)
        have hs1 : ∃ r, lpr T n g 5 (p1 + 1) oo = some r := by
          obtain ⟨r, hr⟩ := hs
          unfold lpb at hr
          cases h : lpr T n g 5 (p1 + 1) oo with
          | none =>
            rw [h] at hr
            exact absurd hr (by simp)
          | some x => exact ⟨x, rfl⟩
        ((repeat' first | refine hP _ ?_ | fail); try dsimp only)
        refine ⟨fun c => absurd c (by decide), fun _ => ?_⟩
        ((repeat' first | refine hP _ ?_ | fail); try dsimp only)
        refine m_put (a := 0) (sg := 38) u1.2.1.2 (by omega) (by omega) (by omega) ?_
        ((repeat' first | refine hP _ ?_ | fail); try dsimp only)
        refine hi g (by omega) (p1 + 1) oo hlt hs1 D (z1 + 1) _ _ hD u2 (fun e v2 he f3 h2 => ?_) (fun q1 c1 v2 he f3 p2 g2 => ?_)
        · rw [he] at hE
          ((repeat' first | refine hP _ ?_ | fail); try dsimp only)
          refine ⟨fun c => absurd rfl c, fun _ => ?_⟩
          ((repeat' first | refine hP _ ?_ | fail); try dsimp only)
          exact ⟨Or.inl rfl, hE e v2 rfl (f12.tr f3 (by omega)) h2⟩
        · have ln := lp_len g 5 (p1 + 1) oo q1 c1 hlt he
          rw [he] at hE hO hs
          have f13 := f12.tr f3 (show z1 ≤ z1 + 1 by omega)
          have e3 : v2 12 z1 = nI 38 := by
            rw [f3.2.2.2 z1 (by omega), e2]
          have f4 : lr_fr v2 (am_up v2 12 z1 (nI ((z1 + 1 + c1.length) * 256 + 38))) z1 := ⟨fun c _ _ a => by rw [am_up_ne _ _ _ a], fun j _ _ _ _ => by rw [am_up_ne _ _ _ (by decide)], fun j _ => by rw [am_up_ne _ _ _ (by decide)], fun i hi => by rw [am_up_eq, if_neg (fun t => by have := t.2; omega)]⟩
          have p4 : lr_pre (am_up v2 12 z1 (nI ((z1 + 1 + c1.length) * 256 + 38))) T n q1 oo (z1 + 1 + c1.length) := ⟨p2.1.o (by rw [am_up_ne _ _ _ (by decide)]) (by rw [am_up_ne _ _ _ (by decide)]) (by rw [am_up_ne _ _ _ (by decide)]), ⟨by rw [am_up_ne _ _ _ (by decide)]; exact p2.2.1.1, by rw [am_up_ne _ _ _ (by decide)]; exact p2.2.1.2⟩, p2.2.2⟩
          have hs2 : ∃ r, lpr T n g 7 q1 oo = some r := by
            obtain ⟨r, hr⟩ := hs
            cases h : lpr T n g 7 q1 oo with
            | none =>
              unfold lpb at hr
              dsimp only at hr
              rw [h] at hr
              exact absurd hr (by simp [lpb])
            | some x => exact ⟨x, rfl⟩
          ((repeat' first | refine hP _ ?_ | fail); try dsimp only)
          refine ⟨fun _ => ?_, fun c => absurd c (by decide)⟩
          ((repeat' first | refine hP _ ?_ | fail); try dsimp only)
          refine m_goOn (sg := 38) p2.2.1.2 (by omega) (by omega) (by omega) e3 ?_
          ((iterate 2 refine hP _ ?_); try dsimp only)
          rw [nI_1]
          refine ih (by omega) (mr + 1) q1 (z1 + 1 + c1.length) _ _ hs2 (by omega) p4 (fun e u' he' f' h9 => ?_) (fun p5 c3 u' he' f' p' g' => ?_)
          · refine hE e u' ?_ ((f13.tr f4 (by omega)).tr f' (by omega)) h9
            show lpb (lpr T n g 7 q1 oo) _ = _
            rw [he']
            rfl
          · refine hO p5 ((11, c1.length + 1) :: (c1 ++ c3)) u' ?_ ((f13.tr f4 (by omega)).tr f' (by omega)) ?_ ?_
            · show lpb (lpr T n g 7 q1 oo) _ = _
              rw [he']
              rfl
            · rw [List.length_cons, List.length_append, show z1 + (c1.length + c3.length + 1) = z1 + 1 + c1.length + c3.length by omega]
              exact p'
            · refine cdC.app (c1 := [(11, c1.length + 1)]) (cdC.one ?_) (cdC.app (g2.of (fun i hz hi => ?_)) g')
              · rw [f'.2.2.2 z1 (by omega), am_up_eq, if_pos ⟨rfl, rfl⟩]
                show _ = nI ((z1 + (c1.length + 1)) * 256 + 38)
                congr 2
                omega
              · rw [f'.2.2.2 i hi]
                show am_up v2 12 z1 _ 12 i = v2 12 i
                rw [am_up_eq, if_neg (fun y => by have := y.2; omega)]
  have hs0 : ∃ r, lpr T n F 5 p oo = some r := by
    obtain ⟨r, hr⟩ := hsome
    unfold lpb at hr
    cases h : lpr T n F 5 p oo with
    | none =>
      rw [h] at hr
      exact absurd hr (by simp)
    | some x => exact ⟨x, rfl⟩
  ((repeat' first | refine hP _ ?_ | fail); try dsimp only)
  refine hi F (by omega) p oo hpn hs0 D z v _ hD hpre (fun e v2 he f2 h2 => ?_) (fun q1 c1 v2 he f2 p2 g2 => ?_)
  · rw [he] at hE
    ((repeat' first | refine hP _ ?_ | fail); try dsimp only)
    refine ⟨fun c => absurd rfl c, fun _ => ?_⟩
    ((repeat' first | refine hP _ ?_ | fail); try dsimp only)
    exact ⟨Or.inl rfl, hE e v2 rfl f2 h2⟩
  · have ln := lp_len F 5 p oo q1 c1 hpn he
    have ln2 := ln.2.2 (by omega)
    rw [he] at hE hO hsome
    have hs2 : ∃ r, lpr T n F 7 q1 oo = some r := by
      obtain ⟨r, hr⟩ := hsome
      cases h : lpr T n F 7 q1 oo with
      | none =>
        unfold lpb at hr
        dsimp only at hr
        rw [h] at hr
        exact absurd hr (by simp [lpb])
      | some x => exact ⟨x, rfl⟩
    ((repeat' first | refine hP _ ?_ | fail); try dsimp only)
    refine ⟨fun _ => ?_, fun c => absurd c (by decide)⟩
    ((iterate 2 refine hP _ ?_); try dsimp only)
    refine key F (by omega) 0 q1 (z + c1.length) v2 none hs2 (by omega) p2 (fun e u' he' f' h9 => ?_) (fun p3 c3 u' he' f' p' g' => ?_)
    · refine hE e u' ?_ (f2.tr f' (by omega)) h9
      show lpb (lpr T n F 7 q1 oo) _ = _
      rw [he']
      rfl
    · refine hO p3 (c1 ++ c3) u' ?_ (f2.tr f' (by omega)) ?_ ((g2.of (fun i _ hi => f'.2.2.2 i hi)).app g')
      · show lpb (lpr T n F 7 q1 oo) _ = _
        rw [he']
        rfl
      · rw [List.length_append, ← Nat.add_assoc]
        exact p'
set_option maxRecDepth 100000 in
set_option maxHeartbeats 4000000 in
theorem lr_choice {K : am_K} {w : am_X} {T : Nat → Int32} {n F : Nat} (hi : ∀ g, g < F → ∀ p oo, p ≤ n → (∃ r, lpr T n g 6 p oo = some r) → LRc K w T n 53 9 (lpr T n g 6 p oo) p oo) {p oo : Nat} (hsome : ∃ r, lpr T n F 8 p oo = some r) : LRc K w T n 52 10 (lpr T n F 8 p oo) p oo := by
  intro D z v Q hD hpre hE hO
  obtain ⟨F, rfl⟩ : ∃ F', F = F' + 1 := by
    cases F with
    | zero => exact absurd hsome (by simp [lpr])
    | succ F => exact ⟨F, rfl⟩
  have hn := hpre.1.2.2.1.1
  have hpn := hpre.1.2.2.1.2
  have hzp := hpre.2.2.1
  rw [lpr_8] at hE hO hsome
  refine en_X4_readChoice rfl ?_
  intro P hP
  -- what is left
  have key : ∀ (g : Nat), g < F + 1 → ∀ (mr p1 z1 : Nat) (u : am_V) (l2 : Option Value), (∃ r, lpr T n g 9 p1 oo = some r) → mr < p1 → lr_pre u T n p1 oo z1 → (∀ e u', lpr T n g 9 p1 oo = some (.error e) → lr_fr u u' z1 → u' 10 2 = flt e → Q (some (.int 0)) (am_sh, u', w)) → (∀ p2 c2 u', lpr T n g 9 p1 oo = some (.ok (p2, c2)) → lr_fr u u' z1 → lr_pre u' T n p2 oo (z1 + c2.length) → cdC (u' 12) z1 c2 → Q (some (.int 1)) (am_sh, u', w)) → P (cd_X4_readChoice.drop 7, [some (.ref 10), some (.int (nI mr)), l2], [], (am_sh, u, w), 0, 0) := by
    intro g
    induction g with
    | zero =>
      intro _ mr p1 z1 u l2 hs
      exact absurd hs (by simp [lpr])
    | succ g ih =>
      intro hg mr p1 z1 u l2 hs hmr hu hE hO
      have hp1n := hu.1.2.2.1.2
      have hz1 := hu.2.2.1
      rw [lpr_9] at hE hO hs
      ((repeat' first | refine hP _ ?_ | fail); try dsimp only)
      refine ⟨fun c => absurd c (nI_ge (b := 240) (by omega) (by omega)), fun _ => ?_⟩
      ((repeat' first | refine hP _ ?_ | fail); try dsimp only)
      refine m_takesC rdr10 hu.1 am_idx_2735 (by decide) (by decide) (fun q => ?_) (fun q hlt => ?_)
      · rw [if_neg (on1n.mp q)] at hO
        ((repeat' first | refine hP _ ?_ | fail); try dsimp only)
        refine ⟨fun _ => ?_, fun c => absurd rfl c⟩
        ((repeat' first | refine hP _ ?_ | fail); try dsimp only)
        exact ⟨Or.inr rfl, hO p1 [] u rfl lr_fr.rf hu cdC.nil⟩
      · rw [if_pos (on1.mp q)] at hE hO hs
        obtain ⟨f1, u1⟩ := lr_take hu hlt (cc T n p1)
        obtain ⟨f2, u2, e2⟩ := lr_put u1 (show z1 < p1 + 1 by omega) (nI (0 * 256 + 124))
        have f12 := f1.tr f2 (Nat.le_refl _)
        have hs1 : ∃ r, lpr T n g 6 (p1 + 1) oo = some r := by
          obtain ⟨r, hr⟩ := hs
          unfold lpb at hr
          cases h : lpr T n g 6 (p1 + 1) oo with
          | none =>
            rw [h] at hr
            exact absurd hr (by simp)
          | some x => exact ⟨x, rfl⟩
        ((repeat' first | refine hP _ ?_ | fail); try dsimp only)
        refine ⟨fun c => absurd c (by decide), fun _ => ?_⟩
        ((repeat' first | refine hP _ ?_ | fail); try dsimp only)
        refine m_put (a := 0) (sg := 124) u1.2.1.2 (by omega) (by omega) (by omega) ?_
        ((repeat' first | refine hP _ ?_ | fail); try dsimp only)
        refine hi g (by omega) (p1 + 1) oo hlt hs1 D (z1 + 1) _ _ hD u2 (fun e v2 he f3 h2 => ?_) (fun q1 c1 v2 he f3 p2 g2 => ?_)
        · rw [he] at hE
          ((repeat' first | refine hP _ ?_ | fail); try dsimp only)
          refine ⟨fun c => absurd rfl c, fun _ => ?_⟩
          ((repeat' first | refine hP _ ?_ | fail); try dsimp only)
          exact ⟨Or.inl rfl, hE e v2 rfl (f12.tr f3 (by omega)) h2⟩
        · have ln := lp_len g 6 (p1 + 1) oo q1 c1 hlt he
          rw [he] at hE hO hs
          have f13 := f12.tr f3 (show z1 ≤ z1 + 1 by omega)
          have e3 : v2 12 z1 = nI 124 := by
            rw [f3.2.2.2 z1 (by omega), e2]
          have f4 : lr_fr v2 (am_up v2 12 z1 (nI ((z1 + 1 + c1.length) * 256 + 124))) z1 := ⟨fun c _ _ a => by rw [am_up_ne _ _ _ a], fun j _ _ _ _ => by rw [am_up_ne _ _ _ (by decide)], fun j _ => by rw [am_up_ne _ _ _ (by decide)], fun i hi => by rw [am_up_eq, if_neg (fun t => by have := t.2; omega)]⟩
          have p4 : lr_pre (am_up v2 12 z1 (nI ((z1 + 1 + c1.length) * 256 + 124))) T n q1 oo (z1 + 1 + c1.length) := ⟨p2.1.o (by rw [am_up_ne _ _ _ (by decide)]) (by rw [am_up_ne _ _ _ (by decide)]) (by rw [am_up_ne _ _ _ (by decide)]), ⟨by rw [am_up_ne _ _ _ (by decide)]; exact p2.2.1.1, by rw [am_up_ne _ _ _ (by decide)]; exact p2.2.1.2⟩, p2.2.2⟩
          have hs2 : ∃ r, lpr T n g 9 q1 oo = some r := by
            obtain ⟨r, hr⟩ := hs
            cases h : lpr T n g 9 q1 oo with
            | none =>
              unfold lpb at hr
              dsimp only at hr
              rw [h] at hr
              exact absurd hr (by simp [lpb])
            | some x => exact ⟨x, rfl⟩
          ((repeat' first | refine hP _ ?_ | fail); try dsimp only)
          refine ⟨fun _ => ?_, fun c => absurd c (by decide)⟩
          ((repeat' first | refine hP _ ?_ | fail); try dsimp only)
          refine m_goOn (sg := 124) p2.2.1.2 (by omega) (by omega) (by omega) e3 ?_
          ((iterate 2 refine hP _ ?_); try dsimp only)
          rw [nI_1]
          refine ih (by omega) (mr + 1) q1 (z1 + 1 + c1.length) _ _ hs2 (by omega) p4 (fun e u' he' f' h9 => ?_) (fun p5 c3 u' he' f' p' g' => ?_)
          · refine hE e u' ?_ ((f13.tr f4 (by omega)).tr f' (by omega)) h9
            show lpb (lpr T n g 9 q1 oo) _ = _
            rw [he']
            rfl
          · refine hO p5 ((12, c1.length + 1) :: (c1 ++ c3)) u' ?_ ((f13.tr f4 (by omega)).tr f' (by omega)) ?_ ?_
            · show lpb (lpr T n g 9 q1 oo) _ = _
              rw [he']
              rfl
            · rw [List.length_cons, List.length_append, show z1 + (c1.length + c3.length + 1) = z1 + 1 + c1.length + c3.length by omega]
              exact p'
            · refine cdC.app (c1 := [(12, c1.length + 1)]) (cdC.one ?_) (cdC.app (g2.of (fun i hz hi => ?_)) g')
              · rw [f'.2.2.2 z1 (by omega), am_up_eq, if_pos ⟨rfl, rfl⟩]
                show _ = nI ((z1 + (c1.length + 1)) * 256 + 124)
                congr 2
                omega
              · rw [f'.2.2.2 i hi]
                show am_up v2 12 z1 _ 12 i = v2 12 i
                rw [am_up_eq, if_neg (fun y => by have := y.2; omega)]
  have hs0 : ∃ r, lpr T n F 6 p oo = some r := by
    obtain ⟨r, hr⟩ := hsome
    unfold lpb at hr
    cases h : lpr T n F 6 p oo with
    | none =>
      rw [h] at hr
      exact absurd hr (by simp)
    | some x => exact ⟨x, rfl⟩
  ((repeat' first | refine hP _ ?_ | fail); try dsimp only)
  refine hi F (by omega) p oo hpn hs0 D z v _ hD hpre (fun e v2 he f2 h2 => ?_) (fun q1 c1 v2 he f2 p2 g2 => ?_)
  · rw [he] at hE
    ((repeat' first | refine hP _ ?_ | fail); try dsimp only)
    refine ⟨fun c => absurd rfl c, fun _ => ?_⟩
    ((repeat' first | refine hP _ ?_ | fail); try dsimp only)
    exact ⟨Or.inl rfl, hE e v2 rfl f2 h2⟩
  · have ln := lp_len F 6 p oo q1 c1 hpn he
    have ln2 := ln.2.2 (by omega)
    rw [he] at hE hO hsome
    have hs2 : ∃ r, lpr T n F 9 q1 oo = some r := by
      obtain ⟨r, hr⟩ := hsome
      cases h : lpr T n F 9 q1 oo with
      | none =>
        unfold lpb at hr
        dsimp only at hr
        rw [h] at hr
        exact absurd hr (by simp [lpb])
      | some x => exact ⟨x, rfl⟩
    ((repeat' first | refine hP _ ?_ | fail); try dsimp only)
    refine ⟨fun _ => ?_, fun c => absurd c (by decide)⟩
    ((iterate 2 refine hP _ ?_); try dsimp only)
    refine key F (by omega) 0 q1 (z + c1.length) v2 none hs2 (by omega) p2 (fun e u' he' f' h9 => ?_) (fun p3 c3 u' he' f' p' g' => ?_)
    · refine hE e u' ?_ (f2.tr f' (by omega)) h9
      show lpb (lpr T n F 9 q1 oo) _ = _
      rw [he']
      rfl
    · refine hO p3 (c1 ++ c3) u' ?_ (f2.tr f' (by omega)) ?_ ((g2.of (fun i _ hi => f'.2.2.2 i hi)).app g')
      · show lpb (lpr T n F 9 q1 oo) _ = _
        rw [he']
        rfl
      · rw [List.length_append, ← Nat.add_assoc]
        exact p'
set_option maxRecDepth 100000 in
set_option maxHeartbeats 4000000 in
theorem lr_not {K : am_K} {w : am_X} {T : Nat → Int32} {n f p oo : Nat} (hc : cc T n p = 33) (hi : oo < 6 → LRc K w T n 54 8 (lpr T n f 5 (p + 1) (oo + 1)) (p + 1) (oo + 1)) : LRc K w T n 55 7 (lpr T n (f + 1) 5 p oo) p oo := by
  intro D z v Q hD hpre hE hO
  have hn := hpre.1.2.2.1.1
  have hzp := hpre.2.2.1
  have hpl := cc_p hc (by decide)
  rw [lpr_5, if_neg (by rw [hc]; decide), if_pos hc] at hE hO
  refine en_X4_readNot rfl ?_
  intro P hP
  ((repeat' first | refine hP _ ?_ | fail); try dsimp only)
  refine m_opensC hpre (by rw [hc]; decide) (fun h6 v' f1 h2 => ?_) (fun h6 v1 f1 p1 => ?_)
  · rw [if_pos h6] at hE
    ((repeat' first | refine hP _ ?_ | fail); try dsimp only)
    refine ⟨fun _ => ?_, fun c => absurd rfl c⟩
    ((repeat' first | refine hP _ ?_ | fail); try dsimp only)
    exact ⟨Or.inl rfl, hE (5, p) v' rfl f1 h2⟩
  · rw [if_neg (by omega)] at hE hO
    obtain ⟨D, rfl⟩ : ∃ D', D = D' + 4 := ⟨D - 4, by omega⟩
    ((repeat' first | refine hP _ ?_ | fail); try dsimp only)
    refine ⟨fun c => absurd c (by decide), fun _ => ?_⟩
    ((repeat' first | refine hP _ ?_ | fail); try dsimp only)
    refine hi h6 (D + 2) z v1 _ (by omega) p1 (fun e v2 he f2 h2 => ?_) (fun q1 c1 v2 he f2 p2 g2 => ?_)
    · rw [he] at hE
      ((repeat' first | refine hP _ ?_ | fail); try dsimp only)
      refine ⟨fun c => absurd rfl c, fun _ => ?_⟩
      ((repeat' first | refine hP _ ?_ | fail); try dsimp only)
      exact ⟨Or.inl rfl, hE e v2 rfl (f1.tr f2 (Nat.le_refl _)) h2⟩
    · have ln := lp_len f 5 (p + 1) (oo + 1) q1 c1 hpl he
      rw [he] at hO
      have f12 := f1.tr f2 (Nat.le_refl _)
      obtain ⟨f3, p3⟩ := lr_open (o' := oo) p2 (by omega)
      obtain ⟨f4, p4, e4⟩ := lr_put p3 (show z + c1.length < q1 by omega) (nI (0 * 256 + 33))
      ((repeat' first | refine hP _ ?_ | fail); try dsimp only)
      refine ⟨fun _ => ?_, fun c => absurd c (by decide)⟩
      ((repeat' first | refine hP _ ?_ | fail); try dsimp only)
      rw [p2.2.1.1, nI_pred]
      refine m_put (a := 0) (sg := 33) p3.2.1.2 (by omega) (by omega) (by omega) ?_
      ((repeat' first | refine hP _ ?_ | fail); try dsimp only)
      refine ⟨Or.inr rfl, hO q1 (c1 ++ [(10, 0)]) _ rfl ((f12.tr f3 (by omega)).tr f4 (by omega)) ?_ ((g2.of (fun i hz hi => ?_)).app (cdC.one ?_))⟩
      · rw [List.length_append, ← Nat.add_assoc]
        exact p4
      · rw [f4.2.2.2 i hi, f3.2.2.2 i hi]
      · rw [e4]
        rfl
set_option maxRecDepth 100000 in
set_option maxHeartbeats 4000000 in
theorem lr_test {K : am_K} {w : am_X} {T : Nat → Int32} {n f p oo : Nat} (hch : oo < 6 → cc T n p = 40 → LRc K w T n 52 10 (lpr T n f 8 (p + 1) (oo + 1)) (p + 1) (oo + 1)) (hts : oo < 6 → cc T n p = 33 → LRc K w T n 54 8 (lpr T n f 5 (p + 1) (oo + 1)) (p + 1) (oo + 1)) (hsm : ¬ cc T n p = 40 → ¬ cc T n p = 33 → ∀ p1, (p1 = p ∨ ∃ q c, lpr T n f 3 p oo = some (.ok (q, c)) ∧ p1 = q + 1 ∧ onl cmL (cc T n q) = true) → LRc K w T n 56 7 (lpr T n f 3 p1 oo) p1 oo) : LRc K w T n 54 8 (lpr T n (f + 1) 5 p oo) p oo := by
  intro D z v Q hD hpre hE hO
  have hn := hpre.1.2.2.1.1
  have hpn := hpre.1.2.2.1.2
  have hzp := hpre.2.2.1
  refine en_X4_readTest rfl ?_
  intro P hP
  ((repeat' first | refine hP _ ?_ | fail); try dsimp only)
  refine m_isOn rdr10 hpre.1 am_idx_2703 (by decide) (by decide) ?_
  ((repeat' first | refine hP _ ?_ | fail); try dsimp only)
  cases ho : onl [40] (cc T n p) with
  | true =>
    refine ⟨fun c => absurd c (by decide), fun _ => ?_⟩
    ((repeat' first | refine hP _ ?_ | fail); try dsimp only)
    refine lr_group (on1.mp ho) (fun h6 => hch h6 (on1.mp ho)) D z v _ hD hpre (fun e v' he f1 h2 => ?_) (fun p1 c v' he f1 q1 g1 => ?_)
    · ((repeat' first | refine hP _ ?_ | fail); try dsimp only)
      exact ⟨Or.inl rfl, hE e v' he f1 h2⟩
    · ((repeat' first | refine hP _ ?_ | fail); try dsimp only)
      exact ⟨Or.inr rfl, hO p1 c v' he f1 q1 g1⟩
  | false =>
  have n40 := on1n.mp ho
  refine ⟨fun _ => ?_, fun c => absurd rfl c⟩
  ((repeat' first | refine hP _ ?_ | fail); try dsimp only)
  refine m_isOn rdr10 hpre.1 am_idx_2724 (by decide) (by decide) ?_
  ((repeat' first | refine hP _ ?_ | fail); try dsimp only)
  cases ho2 : onl [33] (cc T n p) with
  | true =>
    refine ⟨fun c => absurd c (by decide), fun _ => ?_⟩
    ((repeat' first | refine hP _ ?_ | fail); try dsimp only)
    refine lr_not (on1.mp ho2) (fun h6 => hts h6 (on1.mp ho2)) D z v _ hD hpre (fun e v' he f1 h2 => ?_) (fun p1 c v' he f1 q1 g1 => ?_)
    · ((repeat' first | refine hP _ ?_ | fail); try dsimp only)
      exact ⟨Or.inl rfl, hE e v' he f1 h2⟩
    · ((repeat' first | refine hP _ ?_ | fail); try dsimp only)
      exact ⟨Or.inr rfl, hO p1 c v' he f1 q1 g1⟩
  | false =>
  have n33 := on1n.mp ho2
  rw [lpr_5, if_neg n40, if_neg n33] at hE hO
  refine ⟨fun _ => ?_, fun c => absurd rfl c⟩
  ((repeat' first | refine hP _ ?_ | fail); try dsimp only)
  refine hsm n40 n33 p (Or.inl rfl) D z v _ hD hpre (fun e v2 he f2 h2 => ?_) (fun q1 c1 v2 he f2 p2 g2 => ?_)
  · rw [he] at hE
    ((repeat' first | refine hP _ ?_ | fail); try dsimp only)
    refine ⟨fun c => absurd rfl c, fun _ => ?_⟩
    ((repeat' first | refine hP _ ?_ | fail); try dsimp only)
    exact ⟨Or.inl rfl, hE e v2 rfl f2 h2⟩
  · have ln := lp_len f 3 p oo q1 c1 hpn he
    rw [he] at hE hO
    ((repeat' first | refine hP _ ?_ | fail); try dsimp only)
    refine ⟨fun _ => ?_, fun c => absurd c (by decide)⟩
    ((repeat' first | refine hP _ ?_ | fail); try dsimp only)
    refine m_takesC rdr10 p2.1 am_idx_2729 (by decide) cm_m1 (fun q => ?_) (fun q hlt => ?_)
    · have hE := hE (1, q1)
      unfold lpb at hE
      dsimp only at hE
      rw [if_neg (by rw [q]; decide)] at hE
      ((repeat' first | refine hP _ ?_ | fail); try dsimp only)
      refine ⟨fun c => absurd rfl c, fun _ => ?_⟩
      ((repeat' first | refine hP _ ?_ | fail); try dsimp only)
      refine m_cannot rdr10 p2.1.1.2 ?_
      ((repeat' first | refine hP _ ?_ | fail); try dsimp only)
      exact ⟨Or.inl rfl, hE _ rfl (f2.u10 (by omega) _) (by rw [am_up_eq, if_pos ⟨rfl, rfl⟩])⟩
    · have hk := cm_k q
      obtain ⟨f3, p3⟩ := lr_take p2 hlt (cc T n q1)
      have f23 := f2.tr f3 (show z ≤ z + c1.length by omega)
      ((repeat' first | refine hP _ ?_ | fail); try dsimp only)
      refine ⟨fun _ => ?_, fun c => absurd c (by decide)⟩
      ((repeat' first | refine hP _ ?_ | fail); try dsimp only)
      rw [take_4]
      refine hsm n40 n33 (q1 + 1) (Or.inr ⟨q1, c1, he, rfl, q⟩) D (z + c1.length) _ _ hD p3 (fun e v4 he4 f4 h4 => ?_) (fun q2 c2 v4 he4 f4 p4 g4 => ?_)
      · have hE := hE e
        unfold lpb at hE
        dsimp only at hE
        rw [if_pos q, he4] at hE
        ((repeat' first | refine hP _ ?_ | fail); try dsimp only)
        refine ⟨fun c => absurd rfl c, fun _ => ?_⟩
        ((repeat' first | refine hP _ ?_ | fail); try dsimp only)
        exact ⟨Or.inl rfl, hE v4 rfl (f23.tr f4 (by omega)) h4⟩
      · have ln2 := lp_len f 3 (q1 + 1) oo q2 c2 hlt he4
        have hO := hO q2 (c1 ++ (c2 ++ [(sgK (cc T n q1), 0)]))
        unfold lpb at hO
        dsimp only at hO
        rw [if_pos q, he4] at hO
        obtain ⟨f5, p5, e5⟩ := lr_put p4 (show z + c1.length + c2.length < q2 by omega) (nI (0 * 256 + lc_sg (sgK (cc T n q1))))
        ((repeat' first | refine hP _ ?_ | fail); try dsimp only)
        refine ⟨fun _ => ?_, fun c => absurd c (by decide)⟩
        ((repeat' first | refine hP _ ?_ | fail); try dsimp only)
        rw [hk.2.2]
        refine m_put (a := 0) (sg := lc_sg (sgK (cc T n q1))) p4.2.1.2 (by omega) (lc_sg_lt _) (by omega) ?_
        ((repeat' first | refine hP _ ?_ | fail); try dsimp only)
        refine ⟨Or.inr rfl, hO _ rfl ((f23.tr f4 (by omega)).tr f5 (by omega)) ?_ ((g2.of (fun i hz hi => ?_)).app ((g4.of (fun i hz hi => ?_)).app (cdC.one ?_)))⟩
        · rw [List.length_append, List.length_append, show z + (c1.length + (c2.length + [(sgK (cc T n q1), 0)].length)) = z + c1.length + c2.length + 1 by simp; omega]
          exact p5
        · rw [f5.2.2.2 i (by omega), f4.2.2.2 i (by omega), f3.2.2.2 i (by omega)]
        · rw [f5.2.2.2 i (by omega)]
        · rw [e5]
          unfold lc_C lc_tg
          rw [if_neg (by dsimp only; omega)]
theorem lp_sub {r : lp_R} {k : Nat → List lc_O → lp_R} (h : ∃ x, lpb r k = some x) : ∃ x, r = some x := by
  obtain ⟨x, hx⟩ := h
  unfold lpb at hx
  cases r with
  | none => exact absurd hx (by simp)
  | some y => exact ⟨y, rfl⟩
/-- all readers -/
theorem lr_all {K : am_K} {w : am_X} {T : Nat → Int32} {n : Nat} : ∀ F, (∀ p oo, p ≤ n → (∃ r, lpr T n F 0 p oo = some r) → LRc K w T n 58 5 (lpr T n F 0 p oo) p oo) ∧ (∀ p oo, p ≤ n → (∃ r, lpr T n F 1 p oo = some r) → LRc K w T n 57 6 (lpr T n F 1 p oo) p oo) ∧ (∀ p oo, p ≤ n → (∃ r, lpr T n F 3 p oo = some r) → LRc K w T n 56 7 (lpr T n F 3 p oo) p oo) ∧ (∀ p oo, p ≤ n → (∃ r, lpr T n F 5 p oo = some r) → LRc K w T n 54 8 (lpr T n F 5 p oo) p oo) ∧ (∀ p oo, p ≤ n → (∃ r, lpr T n F 6 p oo = some r) → LRc K w T n 53 9 (lpr T n F 6 p oo) p oo) ∧ (∀ p oo, p ≤ n → (∃ r, lpr T n F 8 p oo = some r) → LRc K w T n 52 10 (lpr T n F 8 p oo) p oo) := by
  intro F
  induction F using Nat.strongRecOn with
  | ind F ih =>
    refine ⟨fun p oo hp hs => ?_, fun p oo _ hs => lr_term (fun g hg p oo hp hs => (ih g hg).1 p oo hp hs) hs, fun p oo _ hs => lr_sum (fun g hg p oo hp hs => (ih g hg).2.1 p oo hp hs) hs, fun p oo hp hs => ?_, fun p oo _ hs => lr_part (fun g hg p oo hp hs => (ih g hg).2.2.2.1 p oo hp hs) hs, fun p oo _ hs => lr_choice (fun g hg p oo hp hs => (ih g hg).2.2.2.2.1 p oo hp hs) hs⟩
    · cases F with
      | zero => exact absurd hs (by simp [lpr])
      | succ F =>
        refine lr_factor (fun h6 hc => ?_)
        rw [lpr_0, if_pos hc, if_neg (by omega)] at hs
        exact (ih F (by omega)).2.2.1 (p + 1) (oo + 1) (cc_p hc (by decide)) (lp_sub hs)
    · cases F with
      | zero => exact absurd hs (by simp [lpr])
      | succ F =>
        refine lr_test (fun h6 hc => ?_) (fun h6 hc => ?_) (fun n40 n33 p1 h1 => ?_)
        · rw [lpr_5, if_pos hc, if_neg (by omega)] at hs
          exact (ih F (by omega)).2.2.2.2.2 (p + 1) (oo + 1) (cc_p hc (by decide)) (lp_sub hs)
        · rw [lpr_5, if_neg (by rw [hc]; decide), if_pos hc, if_neg (by omega)] at hs
          exact (ih F (by omega)).2.2.2.1 (p + 1) (oo + 1) (cc_p hc (by decide)) (lp_sub hs)
        · rw [lpr_5, if_neg n40, if_neg n33] at hs
          rcases h1 with rfl | ⟨q, c, he, rfl, hcm⟩
          · exact (ih F (by omega)).2.2.1 p1 oo hp (lp_sub hs)
          · rw [he] at hs
            unfold lpb at hs
            dsimp only at hs
            rw [if_pos hcm] at hs
            exact (ih F (by omega)).2.2.1 (q + 1) oo (onl_lt cm_m1 hcm) (lp_sub hs)
