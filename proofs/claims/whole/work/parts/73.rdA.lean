/-! ===== reading texts: signs, the class's reader, the reference's place ===== -/
/-- the text's sign at a place; -1 behind its end -/
def cc (T : Nat → Int32) (n p : Nat) : Int32 := if p < n then T p else -1
def onl (l : List Int32) (c : Int32) : Bool := decide (c ∈ l)
theorem onl_iff {l : List Int32} {c : Int32} : onl l c = true ↔ c ∈ l := decide_eq_true_iff
theorem onl_no {l : List Int32} {c : Int32} : onl l c = false ↔ c ∉ l := decide_eq_false_iff_not
def rdr (R : Nat) : Prop := R = 10 ∨ R = 18 ∨ R = 26
/-- the reader of cell R stands at p of the text T of n signs -/
def rd (v : am_V) (R : Nat) (T : Nat → Int32) (n p : Nat) : Prop := (v R 1 = nI n ∧ v R 3 = nI p) ∧ (∀ i, i < n → v 2 i = T i) ∧ (n ≤ 240 ∧ p ≤ n) ∧ (∀ i, i < n → 0 ≤ T i ∧ T i ≤ 255) ∧ ∃ s : Nat, v 1 1 = nI s ∧ n ≤ s ∧ s ≤ 260
def flt (e : Nat × Nat) : Int32 := -1000 * nI e.1 - nI e.2
/-- what a reader may change -/
def frD (R : Nat) (v v' : am_V) : Prop := (∀ k, k ≠ R → v' k = v k) ∧ ∀ j, j ≠ 2 → j ≠ 3 → j ≠ 4 → v' R j = v R j
theorem frD.rf {R : Nat} {v : am_V} : frD R v v := ⟨fun _ _ => rfl, fun _ _ _ _ => rfl⟩
theorem frD.tr {R : Nat} {v v1 v2 : am_V} (h1 : frD R v v1) (h2 : frD R v1 v2) : frD R v v2 := ⟨fun k hk => by rw [h2.1 k hk, h1.1 k hk], fun j a b c => by rw [h2.2 j a b c, h1.2 j a b c]⟩
theorem frD.up {R : Nat} {v v1 : am_V} (h1 : frD R v v1) {j : Nat} (hj : j = 2 ∨ j = 3 ∨ j = 4) (x : Int32) : frD R v (am_up v1 R j x) := ⟨fun k hk => by rw [am_up_ne _ _ _ hk, h1.1 k hk], fun i a b c => by rw [am_up_eq, if_neg (fun q => by have := q.2; omega), h1.2 i a b c]⟩
theorem rdr_ne {R : Nat} (h : rdr R) : 1 ≠ R ∧ 2 ≠ R := by
  rcases h with rfl | rfl | rfl <;> decide
theorem rd.of {v v' : am_V} {R : Nat} {T : Nat → Int32} {n p p' : Nat} (hR : rdr R) (h : rd v R T n p) (hf : frD R v v') (h3 : v' R 3 = nI p') (hp : p' ≤ n) : rd v' R T n p' := by
  obtain ⟨⟨a, -⟩, b, c, d, s, e⟩ := h
  refine ⟨⟨?_, h3⟩, ?_, ⟨c.1, hp⟩, d, s, ?_⟩
  · rw [hf.2 1 (by decide) (by decide) (by decide)]
    exact a
  · rw [hf.1 2 (rdr_ne hR).2]
    exact b
  · rw [hf.1 1 (rdr_ne hR).1]
    exact e
theorem cc_lt {T : Nat → Int32} {n p : Nat} (h : p < n) : cc T n p = T p := if_pos h
theorem cc_ge {T : Nat → Int32} {n p : Nat} (h : n ≤ p) : cc T n p = -1 := if_neg (by omega)
theorem onl_lt {l : List Int32} {T : Nat → Int32} {n p : Nat} (hm : onl l (-1) = false) (h : onl l (cc T n p) = true) : p < n := by
  rcases Nat.lt_or_ge p n with q | q
  · exact q
  · rw [cc_ge q, hm] at h
    exact absurd h (by decide)
theorem sf_on {c : Int32} : ∀ (l : List Int32) (i : Nat), i + l.length < 2 ^ 31 → (0 ≤ am_sfind c (nI i) l ↔ c ∈ l)
  | [], i, _ => by
    unfold am_sfind
    exact ⟨fun h => absurd h (by decide), fun h => absurd h (by simp)⟩
  | a :: l, i, h => by
    unfold am_sfind
    rw [List.length_cons] at h
    by_cases e : a = c
    · rw [if_pos e]
      exact ⟨fun _ => by rw [e]; exact List.mem_cons_self, fun _ => nI_pos' (by omega)⟩
    · rw [if_neg e, nI_1, sf_on l (i + 1) (by omega), List.mem_cons]
      exact ⟨Or.inr, fun q => q.elim (fun z => absurd z.symm e) id⟩
theorem ch_id {x : Int32} (h1 : 0 ≤ x) (h2 : x ≤ 255) : (x.toUInt32 % 65536).toInt32 = x ∧ x < 65536 := by
  obtain ⟨j, hj, rfl⟩ := am_nat h1 h2 (n := 255) rfl
  rw [pk_char, pk_tn (by omega), Nat.mod_eq_of_lt (by omega)]
  exact ⟨rfl, nI_lt (b := 65536) (by omega) (by omega)⟩
section M73
variable {K : am_K} {I : am_I} {d : Nat} {v : am_V} {w : am_X} {Q : Option Value → am_H → Prop} {R : Nat} {T : Nat → Int32} {n p : Nat}
set_option maxRecDepth 100000 in
set_option maxHeartbeats 4000000 in
theorem m_isOn (hR : rdr R) (hr : rd v R T n p) {k : Nat} {l : List Int32} (hk : I k = some (fun c => am_sfind c 0 l)) (hl : l.length < 100) (hm : onl l (-1) = false) (h : Q (some (.int (b2i (onl l (cc T n p))))) (am_sh, v, w)) : am_run K I am_m (d + 1) 77 [.ref R, .ref k] (am_sh, v, w) 0 0 Q := by
  obtain ⟨⟨e1, e3⟩, e2, ⟨hn, hp⟩, hT, -⟩ := hr
  have no : onl l (cc T n p) = false → Q (some (.int 0)) (am_sh, v, w) := fun q => by
    rw [q] at h
    exact h
  have ye : onl l (cc T n p) = true → Q (some (.int 1)) (am_sh, v, w) := fun q => by
    rw [q] at h
    exact h
  rcases hR with rfl | rfl | rfl
  all_goals
    refine en_X7_isOn rfl ?_
    intro P hP
    ((repeat' first | refine hP _ ?_ | fail); try dsimp only)
    rw [e1, e3]
    refine ⟨fun c => ?_, fun c => ?_⟩
    · have c := (nI_leI (by omega) (by omega)).mp c
      ((repeat' first | refine hP _ ?_ | fail); try dsimp only)
      exact ⟨Or.inl rfl, no (by rw [cc_ge c]; exact hm)⟩
    · have c : p < n := Nat.lt_of_not_le (fun q => c (nI_le q (by omega)))
      ((repeat' first | refine hP _ ?_ | fail); try dsimp only)
      rw [e3]
      refine ⟨fun c2 => absurd c2 (nI_ge (b := 260) (by omega) (by omega)), fun _ => ?_⟩
      ((repeat' first | refine hP _ ?_ | fail); try dsimp only)
      rw [e3]
      refine ⟨vp_in_nI (by omega) (by omega), ?_⟩
      dsimp only
      rw [nI_clamp (by omega), e2 p c]
      ((repeat' first | refine hP _ ?_ | fail); try dsimp only)
      rw [(ch_id (hT p c).1 (hT p c).2).1]
      show match I k with
        | some f => (0 ≤ T p ∧ T p < 65536) ∧ _
        | none => False
      rw [hk]
      refine ⟨⟨(hT p c).1, (ch_id (hT p c).1 (hT p c).2).2⟩, ?_⟩
      ((repeat' first | refine hP _ ?_ | fail); try dsimp only)
      have sf := sf_on (c := T p) l 0 (by omega)
      rw [show nI 0 = 0 from rfl] at sf
      refine ⟨fun c3 => ?_, fun c3 => ?_⟩
      · ((repeat' first | refine hP _ ?_ | fail); try dsimp only)
        exact ⟨Or.inl rfl, no (by rw [cc_lt c]; exact onl_no.mpr (fun q => absurd c3 (Int32.not_lt.mpr (sf.mpr q))))⟩
      · ((repeat' first | refine hP _ ?_ | fail); try dsimp only)
        exact ⟨Or.inr rfl, ye (by rw [cc_lt c]; exact onl_iff.mpr (sf.mp (Int32.not_lt.mp c3)))⟩
set_option maxRecDepth 100000 in
set_option maxHeartbeats 4000000 in
theorem m_takesC (hR : rdr R) (hr : rd v R T n p) {k : Nat} {l : List Int32} (hk : I k = some (fun c => am_sfind c 0 l)) (hl : l.length < 100) (hm : onl l (-1) = false) (h0 : onl l (cc T n p) = false → Q (some (.int 0)) (am_sh, v, w)) (h1 : onl l (cc T n p) = true → p < n → Q (some (.int 1)) (am_sh, am_up (am_up v R 4 (cc T n p)) R 3 (nI (p + 1)), w)) : am_run K I am_m (d + 2) 78 [.ref R, .ref k] (am_sh, v, w) 0 0 Q := by
  have hR' := hR
  have hr' := hr
  obtain ⟨⟨e1, e3⟩, e2, ⟨hn, hp⟩, hT, s, es, hns, hs⟩ := hr
  rcases hR with rfl | rfl | rfl
  all_goals
    refine en_X7_takes rfl ?_
    intro P hP
    ((repeat' first | refine hP _ ?_ | fail); try dsimp only)
    refine m_isOn hR' hr' hk hl hm ?_
    ((repeat' first | refine hP _ ?_ | fail); try dsimp only)
    cases ho : onl l (cc T n p) with
    | false =>
      refine ⟨fun c => absurd rfl c, fun _ => ?_⟩
      ((repeat' first | refine hP _ ?_ | fail); try dsimp only)
      exact ⟨Or.inl rfl, h0 ho⟩
    | true =>
      have hp2 := onl_lt hm ho
      have h1 := h1 ho hp2
      rw [cc_lt hp2, ← e2 p hp2] at h1
      refine ⟨fun _ => ?_, fun c => absurd c (by decide)⟩
      ((repeat' first | refine hP _ ?_ | fail); try dsimp only)
      rw [e3]
      refine m_byteAt (n := s) (by omega) es hs ?_
      ((repeat' first | refine hP _ ?_ | fail); try dsimp only)
      refine ⟨Or.inr rfl, ?_⟩
      rw [am_up_eq, if_neg (by decide), e3, nI_1]
      exact h1
theorem take_fr (R : Nat) (v : am_V) (x y : Int32) : frD R v (am_up (am_up v R 4 x) R 3 y) := (frD.rf.up (by omega) x).up (by omega) y
theorem take_rd (hR : rdr R) (hr : rd v R T n p) (x : Int32) (h : p < n) : rd (am_up (am_up v R 4 x) R 3 (nI (p + 1))) R T n (p + 1) := hr.of hR (take_fr R v x _) (by rw [am_up_eq, if_pos ⟨rfl, rfl⟩]) h
theorem take_4 {x y : Int32} : am_up (am_up v R 4 x) R 3 y R 4 = x := by
  rw [am_up_eq, if_neg (fun q => absurd q.2 (by decide)), am_up_eq, if_pos ⟨rfl, rfl⟩]
theorem take_3 {x y : Int32} : am_up (am_up v R 4 x) R 3 y R 3 = y := by
  rw [am_up_eq, if_pos ⟨rfl, rfl⟩]
set_option maxRecDepth 100000 in
set_option maxHeartbeats 4000000 in
theorem m_fails (hR : rdr R) {a b : Int32} (h : Q (some (.int 0)) (am_sh, am_up v R 2 (-1000 * a - b), w)) : am_run K I am_m (d + 1) 81 [.ref R, .int a, .int b] (am_sh, v, w) 0 0 Q := by
  rcases hR with rfl | rfl | rfl
  all_goals
    refine en_X7_fails rfl ?_
    intro P hP
    ((repeat' first | refine hP _ ?_ | fail); try dsimp only)
    exact ⟨Or.inl rfl, h⟩
set_option maxRecDepth 100000 in
set_option maxHeartbeats 4000000 in
theorem m_cannot (hR : rdr R) (h3 : v R 3 = nI p) (h : Q (some (.int 0)) (am_sh, am_up v R 2 (flt (1, p)), w)) : am_run K I am_m (d + 2) 80 [.ref R] (am_sh, v, w) 0 0 Q := by
  have hR' := hR
  rcases hR with rfl | rfl | rfl
  all_goals
    refine en_X7_cannotStand rfl ?_
    intro P hP
    ((repeat' first | refine hP _ ?_ | fail); try dsimp only)
    rw [h3]
    refine m_fails hR' ?_
    ((repeat' first | refine hP _ ?_ | fail); try dsimp only)
    exact ⟨Or.inl rfl, h⟩
end M73
def dgL : List Int32 := [48, 49, 50, 51, 52, 53, 54, 55, 56, 57]
theorem dgL_iff {c : Int32} : onl dgL c = true ↔ (48 ≤ c ∧ c ≤ 57) := by
  rw [onl_iff]
  constructor
  · intro h
    simp [dgL] at h
    rcases h with rfl | rfl | rfl | rfl | rfl | rfl | rfl | rfl | rfl | rfl <;> decide
  · rintro ⟨h1, h2⟩
    have a := Int32.le_iff_toInt_le.mp h1
    have b := Int32.le_iff_toInt_le.mp h2
    rw [show (48 : Int32).toInt = 48 from rfl] at a
    rw [show (57 : Int32).toInt = 57 from rfl] at b
    have t : c.toInt = 48 ∨ c.toInt = 49 ∨ c.toInt = 50 ∨ c.toInt = 51 ∨ c.toInt = 52 ∨ c.toInt = 53 ∨ c.toInt = 54 ∨ c.toInt = 55 ∨ c.toInt = 56 ∨ c.toInt = 57 := by omega
    have e : ∀ x : Int32, c.toInt = x.toInt → c = x := fun x => Int32.toInt_inj.mp
    rcases t with t | t | t | t | t | t | t | t | t | t
    · rw [e 48 t]; decide
    · rw [e 49 t]; decide
    · rw [e 50 t]; decide
    · rw [e 51 t]; decide
    · rw [e 52 t]; decide
    · rw [e 53 t]; decide
    · rw [e 54 t]; decide
    · rw [e 55 t]; decide
    · rw [e 56 t]; decide
    · rw [e 57 t]; decide
/-- a digit is 48 and a number below 10 -/
theorem dg_nat {c : Int32} (h : onl dgL c = true) : ∃ j : Nat, j < 10 ∧ c = nI (48 + j) ∧ c.toNatClampNeg - 48 = j := by
  rw [onl_iff] at h
  simp [dgL] at h
  rcases h with rfl | rfl | rfl | rfl | rfl | rfl | rfl | rfl | rfl | rfl
  · exact ⟨0, by decide⟩
  · exact ⟨1, by decide⟩
  · exact ⟨2, by decide⟩
  · exact ⟨3, by decide⟩
  · exact ⟨4, by decide⟩
  · exact ⟨5, by decide⟩
  · exact ⟨6, by decide⟩
  · exact ⟨7, by decide⟩
  · exact ⟨8, by decide⟩
  · exact ⟨9, by decide⟩
/-- how many digits from a place on, at most M; the number -/
def nd (T : Nat → Int32) (n : Nat) : Nat → Nat → Nat
  | 0, _ => 0
  | M + 1, p => if onl dgL (cc T n p) = true then nd T n M (p + 1) + 1 else 0
def nv (T : Nat → Int32) (n : Nat) : Nat → Nat → Nat → Nat
  | 0, _, x => x
  | M + 1, p, x => if onl dgL (cc T n p) = true then nv T n M (p + 1) (x * 10 + ((cc T n p).toNatClampNeg - 48)) else x
def numF (T : Nat → Int32) (n M p : Nat) : Except (Nat × Nat) (Nat × Nat) := if nd T n M p = 0 then .error (1, p) else if onl dgL (cc T n (p + nd T n M p)) = true then .error (2, p + nd T n M p) else .ok (p + nd T n M p, nv T n M p 0)
theorem dg_m1 : onl dgL (-1) = false := by decide
theorem nd_le (T : Nat → Int32) (n : Nat) : ∀ (M p : Nat), p ≤ n → p + nd T n M p ≤ n
  | 0, p, h => h
  | M + 1, p, h => by
    unfold nd
    split
    · have hp := onl_lt dg_m1 (by assumption)
      have := nd_le T n M (p + 1) hp
      omega
    · exact h
theorem nv_lt (T : Nat → Int32) (n : Nat) : ∀ (M p x : Nat), nv T n M p x < (x + 1) * 10 ^ M
  | 0, p, x => by
    unfold nv
    omega
  | M + 1, p, x => by
    unfold nv
    split
    · obtain ⟨j, hj, -, e⟩ := dg_nat (by assumption)
      rw [e]
      have := nv_lt T n M (p + 1) (x * 10 + j)
      have h2 : (x * 10 + j + 1) * 10 ^ M ≤ (x + 1) * 10 * 10 ^ M := Nat.mul_le_mul_right _ (by omega)
      rw [Nat.pow_succ, Nat.mul_comm (10 ^ M) 10, ← Nat.mul_assoc]
      omega
    · have := Nat.le_mul_of_pos_right (x + 1) (Nat.pow_pos (n := M + 1) (show 0 < 10 by decide))
      omega
