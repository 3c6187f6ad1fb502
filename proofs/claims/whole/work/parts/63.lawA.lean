/-! ===== what THE LAW asks: both sides ===== -/
def lw_is (v : am_V) (us : List lc_U) (z : Nat) : Prop := (us.length ≤ 16 ∧ z ≤ 240) ∧ v 3 7 = nI us.length ∧ v 3 6 = nI z ∧ v 62 15 = nI us.length ∧ lc_two us z (v 4) (v 5) (v 6) (v 7) (v 73) (v 74) (v 75) (v 76) (v 77)
theorem lw_is_of {v u : am_V} {us : List lc_U} {z : Nat} (h : lw_is v us z) (hk : ∀ k, k ∈ [3, 4, 5, 6, 7, 73, 74, 75, 76, 77] → u k = v k) (h62 : u 62 15 = v 62 15) : lw_is u us z := by
  unfold lw_is
  rw [hk 3 (by decide), hk 4 (by decide), hk 5 (by decide), hk 6 (by decide), hk 7 (by decide), hk 73 (by decide), hk 74 (by decide), hk 75 (by decide), hk 76 (by decide), hk 77 (by decide), h62]
  exact h
theorem lw_is_iff {v : am_V} : iv_law v ↔ ∃ us z, lw_is v us z := Iff.rfl
def lc_cl (most x : Int32) : Int32 := if x < 0 then 0 else if most < x then most else x
theorem lc_cl_C {most x : Int32} (h : 0 ≤ most) : (if 0 < (if x < most then x else most) then (if x < most then x else most) else 0) = lc_cl most x := by
  unfold lc_cl
  have h' := Int32.le_iff_toInt_le.mp h
  rw [show (0 : Int32).toInt = 0 from rfl] at h'
  by_cases q : x < most
  · rw [if_pos q]
    have q' := Int32.lt_iff_toInt_lt.mp q
    by_cases p : 0 < x
    · have p' := Int32.lt_iff_toInt_lt.mp p
      rw [show (0 : Int32).toInt = 0 from rfl] at p'
      rw [if_pos p, if_neg (by rw [Int32.lt_iff_toInt_lt, show (0 : Int32).toInt = 0 from rfl]; omega), if_neg (by rw [Int32.lt_iff_toInt_lt]; omega)]
    · rw [if_neg p]
      by_cases r : x < 0
      · rw [if_pos r]
      · rw [if_neg r, if_neg (by rw [Int32.lt_iff_toInt_lt]; omega)]
        rw [Int32.lt_iff_toInt_lt, show (0 : Int32).toInt = 0 from rfl] at p r
        exact Int32.toInt_inj.mp (by rw [show (0 : Int32).toInt = 0 from rfl]; omega)
  · rw [if_neg q]
    rw [Int32.lt_iff_toInt_lt] at q
    rw [if_neg (show ¬ x < 0 by rw [Int32.lt_iff_toInt_lt, show (0 : Int32).toInt = 0 from rfl]; omega)]
    by_cases p : 0 < most
    · rw [if_pos p]
      by_cases r : most < x
      · rw [if_pos r]
      · rw [if_neg r]
        rw [Int32.lt_iff_toInt_lt] at r
        exact Int32.toInt_inj.mp (by omega)
    · rw [if_neg p]
      rw [Int32.lt_iff_toInt_lt, show (0 : Int32).toInt = 0 from rfl] at p
      by_cases r : most < x
      · rw [if_pos r]
        exact Int32.toInt_inj.mp (by rw [show (0 : Int32).toInt = 0 from rfl]; omega)
      · rw [if_neg r]
        rw [Int32.lt_iff_toInt_lt] at r
        exact Int32.toInt_inj.mp (by rw [show (0 : Int32).toInt = 0 from rfl]; omega)
theorem lc_cl_rng {most x : Int32} (h : 0 ≤ most) : iv_in (lc_cl most x) 0 most := by
  unfold lc_cl
  split
  · exact ⟨Int32.le_refl _, h⟩
  · split
    · exact ⟨h, Int32.le_refl _⟩
    · exact ⟨Int32.not_lt.mp (by assumption), Int32.not_lt.mp (by assumption)⟩
def lwA (F : Nat → Int32) (l : Nat) (most : Int32) : List lc_U → Int32
  | [] => 0
  | (l', A, T) :: us => if l' = l ∧ lc_val F T = some 1 then lc_cl most ((lc_val F A).getD 0) else lwA F l most us
def lwH (F : Nat → Int32) (l : Nat) : List lc_U → Bool
  | [] => false
  | (l', _, T) :: us => if l' = l ∧ lc_val F T = some 1 then true else lwH F l us
def lwS (l : Nat) : List lc_U → Bool
  | [] => false
  | (l', _, _) :: us => if l' = l then true else lwS l us
theorem lwA_rng {F : Nat → Int32} {l : Nat} {most : Int32} (h : 0 ≤ most) : ∀ us : List lc_U, iv_in (lwA F l most us) 0 most
  | [] => ⟨Int32.le_refl _, h⟩
  | (l', A, T) :: us => by
    unfold lwA
    split
    · exact lc_cl_rng h
    · exact lwA_rng h us
theorem drop_at {α : Type} {us : List α} {q : Nat} {a : α} {r : List α} (h : us.drop q = a :: r) : us[q]? = some a ∧ us.drop (q + 1) = r ∧ q < us.length := by
  refine ⟨?_, ?_, ?_⟩
  · have e := congrArg (fun l => l[0]?) h
    simpa [List.getElem?_drop] using e
  · rw [← List.drop_drop, h]
    rfl
  · rcases Nat.lt_or_ge q us.length with z | z
    · exact z
    · rw [List.drop_eq_nil_of_le z] at h
      exact absurd h (by simp)
theorem drop_nil {α : Type} {us : List α} {q : Nat} (h : us.drop q = []) : us.length ≤ q := List.drop_eq_nil_iff.mp h
section M63
variable {K : am_K} {I : am_I} {d : Nat} {v : am_V} {w : am_X} {Q : Option Value → am_H → Prop} {us : List lc_U} {z : Nat} {F : Nat → Int32}
set_option maxRecDepth 100000 in
set_option maxHeartbeats 4000000 in
theorem m_amountOf {l : Nat} (hl : lw_is v us z) (hA : lc_isA l) (hF : ∀ a, a < 10 → v 9 a = F a) {most : Int32} (hm : 0 ≤ most) (h : ∀ v' : am_V, (∀ k, k ≠ 8 → v' k = v k) → Q (some (.int (lwA F l most us))) (am_sh, v', w)) : am_run K I am_m (d + 3) 42 [.ref 3, .int (nI l), .int most] (am_sh, v, w) 0 0 Q := by
  refine en_X3_amountOf rfl ?_
  intro P hP
  obtain ⟨⟨hn, hz⟩, h37, h36, -, h2⟩ := hl
  have hl256 : l < 256 := by rcases hA with q | q | q <;> omega
  generalize hR : lwA F l most us = R at h
  have key : ∀ (ur : List lc_U) (q : Nat) (u : am_V), us.drop q = ur → q ≤ us.length → (∀ k, k ≠ 8 → u k = v k) → lwA F l most ur = R → P (cd_X3_amountOf.drop 2, [some (.ref 3), some (.int (nI l)), some (.int most), some (.int (nI q))], [], (am_sh, u, w), 0, 0) := by
    intro ur
    induction ur with
    | nil =>
      intro q u hd hq hu e
      have := drop_nil hd
      ((repeat' first | refine hP _ ?_ | fail); try dsimp only)
      rw [hu 3 (by decide), h37]
      refine ⟨fun _ => ?_, fun z => absurd (nI_le (by omega) (by omega)) z⟩
      ((repeat' first | refine hP _ ?_ | fail); try dsimp only)
      rw [← e] at h
      exact h u hu
    | cons a ur ih =>
      intro q u hd hq hu e
      obtain ⟨l', A, T⟩ := a
      obtain ⟨hat, hd2, hlt⟩ := drop_at hd
      obtain ⟨b1, b2, -, ca, ct, ra, rt, re, ⟨c1, c2, -, -, -⟩, ⟨s1, -, s3⟩, sA⟩ := h2 q l' A T hat
      unfold lwA at e
      ((repeat' first | refine hP _ ?_ | fail); try dsimp only)
      rw [hu 3 (by decide), h37]
      refine ⟨fun z => absurd z (nI_ge hlt (by omega)), fun _ => ?_⟩
      ((repeat' first | refine hP _ ?_ | fail); try dsimp only)
      refine ⟨vp_in_nI (by omega) (by omega), ?_⟩
      ((repeat' first | refine hP _ ?_ | fail); try dsimp only)
      rw [nI_clamp (by omega), hu 5 (by decide), b2]
      have nxt : ∀ u' : am_V, (∀ k, k ≠ 8 → u' k = v k) → lwA F l most ur = R → P (cd_X3_amountOf.drop 30, [some (.ref 3), some (.int (nI l)), some (.int most), some (.int (nI q))], [], (am_sh, u', w), 0, 0) := by
        intro u' hu' e
        have e2 := ih (q + 1) u' hd2 (by omega) hu' e
        rw [← nI_1 q] at e2
        ((iterate 2 refine hP _ ?_); try dsimp only)
        exact e2
      refine ⟨fun c => ?_, fun c => ?_⟩
      · rw [if_neg (fun z => c (by rw [z.1]))] at e
        exact nxt u hu e
      · have hll : l' = l := (nI_eq (by omega) (by omega)).mp c
        ((repeat' first | refine hP _ ?_ | fail); try dsimp only)
        refine ⟨vp_in_nI (by omega) (by omega), ?_⟩
        ((repeat' first | refine hP _ ?_ | fail); try dsimp only)
        rw [nI_clamp (by omega), hu 7 (by decide), c2]
        obtain ⟨x, hx⟩ : ∃ x, lc_val F T = some x := by
          rcases s3 F with q | q
          · exact ⟨0, q⟩
          · exact ⟨1, q⟩
        refine m_reckonC (z := z) (c := T) (F := F) (by rw [hu 3 (by decide)]; exact h36) hz (by rw [hu 4 (by decide)]; exact s1) (fun a ha => by rw [hu 9 (by decide)]; exact hF a ha) hx (fun u1 hu1 => ?_)
        have hu1' : ∀ k, k ≠ 8 → u1 k = v k := fun k hk => by rw [hu1 k hk, hu k hk]
        ((repeat' first | refine hP _ ?_ | fail); try dsimp only)
        refine ⟨fun c0 => ?_, fun c0 => ?_⟩
        · rw [if_neg (fun z => by
            have := z.2
            rw [hx, c0] at this
            exact absurd (Option.some.inj this) (by decide))] at e
          exact nxt u1 hu1' e
        · have hx1 : lc_val F T = some 1 := by
            rcases s3 F with q | q
            · rw [hx] at q
              exact absurd (Option.some.inj q) c0
            · exact q
          rw [if_pos ⟨hll, hx1⟩] at e
          obtain ⟨t1, -, t3⟩ := sA (by rw [hll]; exact hA)
          obtain ⟨y, hy⟩ := t3 F
          ((repeat' first | refine hP _ ?_ | fail); try dsimp only)
          refine ⟨vp_in_nI (by omega) (by omega), ?_⟩
          ((repeat' first | refine hP _ ?_ | fail); try dsimp only)
          rw [nI_clamp (by omega), hu1' 6 (by decide), c1]
          refine m_reckonC (z := z) (c := A) (F := F) (by rw [hu1' 3 (by decide)]; exact h36) hz (by rw [hu1' 4 (by decide)]; exact t1) (fun a ha => by rw [hu1' 9 (by decide)]; exact hF a ha) hy (fun u2 hu2 => ?_)
          have hu2' : ∀ k, k ≠ 8 → u2 k = v k := fun k hk => by rw [hu2 k hk, hu1' k hk]
          rw [hy] at e
          ((repeat' first | refine hP _ ?_ | fail); try dsimp only)
          refine am_qr ?_ rfl (h u2 hu2')
          rw [lc_cl_C hm]
          exact e
  ((iterate 2 refine hP _ ?_); try dsimp only)
  exact key us 0 v rfl (by omega) (fun _ _ => rfl) hR
set_option maxRecDepth 100000 in
set_option maxHeartbeats 4000000 in
theorem m_anyHolds {l : Nat} (hl : lw_is v us z) (hl256 : l < 256) (hF : ∀ a, a < 10 → v 9 a = F a) (h : ∀ v' : am_V, (∀ k, k ≠ 8 → v' k = v k) → Q (some (.int (b2i (lwH F l us)))) (am_sh, v', w)) : am_run K I am_m (d + 3) 43 [.ref 3, .int (nI l)] (am_sh, v, w) 0 0 Q := by
  refine en_X3_anyHolds rfl ?_
  intro P hP
  obtain ⟨⟨hn, hz⟩, h37, h36, -, h2⟩ := hl
  generalize hR : lwH F l us = R at h
  have key : ∀ (ur : List lc_U) (q : Nat) (u : am_V), us.drop q = ur → q ≤ us.length → (∀ k, k ≠ 8 → u k = v k) → lwH F l ur = R → P (cd_X3_anyHolds.drop 2, [some (.ref 3), some (.int (nI l)), some (.int (nI q))], [], (am_sh, u, w), 0, 0) := by
    intro ur
    induction ur with
    | nil =>
      intro q u hd hq hu e
      have := drop_nil hd
      ((repeat' first | refine hP _ ?_ | fail); try dsimp only)
      rw [hu 3 (by decide), h37]
      refine ⟨fun _ => ?_, fun z => absurd (nI_le (by omega) (by omega)) z⟩
      ((repeat' first | refine hP _ ?_ | fail); try dsimp only)
      rw [← e] at h
      exact ⟨Or.inl rfl, h u hu⟩
    | cons a ur ih =>
      intro q u hd hq hu e
      obtain ⟨l', A, T⟩ := a
      obtain ⟨hat, hd2, hlt⟩ := drop_at hd
      obtain ⟨b1, b2, -, ca, ct, ra, rt, re, ⟨c1, c2, -, -, -⟩, ⟨s1, -, s3⟩, sA⟩ := h2 q l' A T hat
      unfold lwH at e
      ((repeat' first | refine hP _ ?_ | fail); try dsimp only)
      rw [hu 3 (by decide), h37]
      refine ⟨fun z => absurd z (nI_ge hlt (by omega)), fun _ => ?_⟩
      ((repeat' first | refine hP _ ?_ | fail); try dsimp only)
      refine ⟨vp_in_nI (by omega) (by omega), ?_⟩
      ((repeat' first | refine hP _ ?_ | fail); try dsimp only)
      rw [nI_clamp (by omega), hu 5 (by decide), b2]
      have nxt : ∀ u' : am_V, (∀ k, k ≠ 8 → u' k = v k) → lwH F l ur = R → P (cd_X3_anyHolds.drop 21, [some (.ref 3), some (.int (nI l)), some (.int (nI q))], [], (am_sh, u', w), 0, 0) := by
        intro u' hu' e
        have e2 := ih (q + 1) u' hd2 (by omega) hu' e
        rw [← nI_1 q] at e2
        ((iterate 2 refine hP _ ?_); try dsimp only)
        exact e2
      refine ⟨fun c => ?_, fun c => ?_⟩
      · rw [if_neg (fun z => c (by rw [z.1]))] at e
        exact nxt u hu e
      · have hll : l' = l := (nI_eq (by omega) (by omega)).mp c
        ((repeat' first | refine hP _ ?_ | fail); try dsimp only)
        refine ⟨vp_in_nI (by omega) (by omega), ?_⟩
        ((repeat' first | refine hP _ ?_ | fail); try dsimp only)
        rw [nI_clamp (by omega), hu 7 (by decide), c2]
        obtain ⟨x, hx⟩ : ∃ x, lc_val F T = some x := by
          rcases s3 F with q | q
          · exact ⟨0, q⟩
          · exact ⟨1, q⟩
        refine m_reckonC (z := z) (c := T) (F := F) (by rw [hu 3 (by decide)]; exact h36) hz (by rw [hu 4 (by decide)]; exact s1) (fun a ha => by rw [hu 9 (by decide)]; exact hF a ha) hx (fun u1 hu1 => ?_)
        have hu1' : ∀ k, k ≠ 8 → u1 k = v k := fun k hk => by rw [hu1 k hk, hu k hk]
        ((repeat' first | refine hP _ ?_ | fail); try dsimp only)
        refine ⟨fun c0 => ?_, fun c0 => ?_⟩
        · rw [if_neg (fun z => by
            have := z.2
            rw [hx, c0] at this
            exact absurd (Option.some.inj this) (by decide))] at e
          exact nxt u1 hu1' e
        · have hx1 : lc_val F T = some 1 := by
            rcases s3 F with q | q
            · rw [hx] at q
              exact absurd (Option.some.inj q) c0
            · exact q
          rw [if_pos ⟨hll, hx1⟩] at e
          ((repeat' first | refine hP _ ?_ | fail); try dsimp only)
          rw [← e] at h
          exact ⟨Or.inr rfl, h u1 hu1'⟩
  ((iterate 2 refine hP _ ?_); try dsimp only)
  exact key us 0 v rfl (by omega) (fun _ _ => rfl) hR
set_option maxRecDepth 100000 in
set_option maxHeartbeats 4000000 in
theorem m_speaksOf {l : Nat} (hl : lw_is v us z) (hl256 : l < 256) (h : Q (some (.int (b2i (lwS l us)))) (am_sh, v, w)) : am_run K I am_m (d + 1) 44 [.ref 3, .int (nI l)] (am_sh, v, w) 0 0 Q := by
  refine en_X3_speaksOf rfl ?_
  intro P hP
  obtain ⟨⟨hn, hz⟩, h37, h36, -, h2⟩ := hl
  generalize hR : lwS l us = R at h
  have key : ∀ (ur : List lc_U) (q : Nat), us.drop q = ur → q ≤ us.length → lwS l ur = R → P (cd_X3_speaksOf.drop 2, [some (.ref 3), some (.int (nI l)), some (.int (nI q))], [], (am_sh, v, w), 0, 0) := by
    intro ur
    induction ur with
    | nil =>
      intro q hd hq e
      have := drop_nil hd
      ((repeat' first | refine hP _ ?_ | fail); try dsimp only)
      rw [h37]
      refine ⟨fun _ => ?_, fun z => absurd (nI_le (by omega) (by omega)) z⟩
      ((repeat' first | refine hP _ ?_ | fail); try dsimp only)
      rw [← e] at h
      exact ⟨Or.inl rfl, h⟩
    | cons a ur ih =>
      intro q hd hq e
      obtain ⟨l', A, T⟩ := a
      obtain ⟨hat, hd2, hlt⟩ := drop_at hd
      obtain ⟨b1, b2, -⟩ := h2 q l' A T hat
      unfold lwS at e
      ((repeat' first | refine hP _ ?_ | fail); try dsimp only)
      rw [h37]
      refine ⟨fun z => absurd z (nI_ge hlt (by omega)), fun _ => ?_⟩
      ((repeat' first | refine hP _ ?_ | fail); try dsimp only)
      refine ⟨vp_in_nI (by omega) (by omega), ?_⟩
      ((repeat' first | refine hP _ ?_ | fail); try dsimp only)
      rw [nI_clamp (by omega), b2]
      refine ⟨fun c => ?_, fun c => ?_⟩
      · rw [if_neg (fun z => c (by rw [z]))] at e
        have e2 := ih (q + 1) hd2 (by omega) e
        rw [← nI_1 q] at e2
        ((iterate 2 refine hP _ ?_); try dsimp only)
        exact e2
      · have hll : l' = l := (nI_eq (by omega) (by omega)).mp c
        rw [if_pos hll] at e
        ((repeat' first | refine hP _ ?_ | fail); try dsimp only)
        rw [← e] at h
        exact ⟨Or.inr rfl, h⟩
  ((iterate 2 refine hP _ ?_); try dsimp only)
  exact key us 0 rfl (by omega) hR
set_option maxRecDepth 100000 in
set_option maxHeartbeats 4000000 in
theorem m_byLaw {l : Nat} (hl : lw_is v us z) (hA : lc_isA l) (hF : ∀ a, a < 10 → v 79 a = F a) {most : Int32} (hm : 0 ≤ most) (h : ∀ v' : am_V, (∀ k, k ≠ 78 → v' k = v k) → Q (some (.int (lwA F l most us))) (am_sh, v', w)) : am_run K I am_m (d + 3) 176 [.ref 62, .int (nI l), .int most] (am_sh, v, w) 0 0 Q := by
  refine en_X12_byLaw rfl ?_
  intro P hP
  obtain ⟨⟨hn, hz⟩, -, -, h15, h2⟩ := hl
  have hl256 : l < 256 := by rcases hA with q | q | q <;> omega
  generalize hR : lwA F l most us = R at h
  have key : ∀ (ur : List lc_U) (q : Nat) (u : am_V) (l4 : Option Value), us.drop q = ur → q ≤ us.length → (∀ k, k ≠ 78 → u k = v k) → lwA F l most ur = R → P (cd_X12_byLaw.drop 2, [some (.ref 62), some (.int (nI l)), some (.int most), some (.int (nI q)), l4], [], (am_sh, u, w), 0, 0) := by
    intro ur
    induction ur with
    | nil =>
      intro q u l4 hd hq hu e
      have := drop_nil hd
      ((repeat' first | refine hP _ ?_ | fail); try dsimp only)
      rw [hu 62 (by decide), h15]
      refine ⟨fun _ => ?_, fun z => absurd (nI_le (by omega) (by omega)) z⟩
      ((repeat' first | refine hP _ ?_ | fail); try dsimp only)
      rw [← e] at h
      exact h u hu
    | cons a ur ih =>
      intro q u l4 hd hq hu e
      obtain ⟨l', A, T⟩ := a
      obtain ⟨hat, hd2, hlt⟩ := drop_at hd
      obtain ⟨b1, -, b3, ca, ct, ra, rt, re, ⟨-, -, c3, c4, c5⟩, ⟨-, s2, s3⟩, sA⟩ := h2 q l' A T hat
      unfold lwA at e
      ((repeat' first | refine hP _ ?_ | fail); try dsimp only)
      rw [hu 62 (by decide), h15]
      refine ⟨fun z => absurd z (nI_ge hlt (by omega)), fun _ => ?_⟩
      ((repeat' first | refine hP _ ?_ | fail); try dsimp only)
      refine ⟨vp_in_nI (by omega) (by omega), ?_⟩
      ((repeat' first | refine hP _ ?_ | fail); try dsimp only)
      rw [nI_clamp (by omega), hu 74 (by decide), b3]
      have nxt : ∀ (u' : am_V) (l4 : Option Value), (∀ k, k ≠ 78 → u' k = v k) → lwA F l most ur = R → P (cd_X12_byLaw.drop 47, [some (.ref 62), some (.int (nI l)), some (.int most), some (.int (nI q)), l4], [], (am_sh, u', w), 0, 0) := by
        intro u' l4 hu' e
        have e2 := ih (q + 1) u' l4 hd2 (by omega) hu' e
        rw [← nI_1 q] at e2
        ((iterate 2 refine hP _ ?_); try dsimp only)
        exact e2
      refine ⟨fun c => ?_, fun c => ?_⟩
      · rw [if_neg (fun z => c (by rw [z.1]))] at e
        exact nxt u _ hu e
      · have hll : l' = l := (nI_eq (by omega) (by omega)).mp c
        ((repeat' first | refine hP _ ?_ | fail); try dsimp only)
        refine ⟨vp_in_nI (by omega) (by omega), ?_⟩
        ((repeat' first | refine hP _ ?_ | fail); try dsimp only)
        refine ⟨vp_in_nI (by omega) (by omega), ?_⟩
        ((repeat' first | refine hP _ ?_ | fail); try dsimp only)
        rw [nI_clamp (by omega), hu 76 (by decide), c4, hu 77 (by decide), c5]
        obtain ⟨x, hx⟩ : ∃ x, lc_val F T = some x := by
          rcases s3 F with q | q
          · exact ⟨0, q⟩
          · exact ⟨1, q⟩
        refine m_comesTo (c := T) (F := F) (by rw [hu 73 (by decide)]; exact s2) (fun a ha => by rw [hu 79 (by decide)]; exact hF a ha) hx (fun u1 hu1 => ?_)
        have hu1' : ∀ k, k ≠ 78 → u1 k = v k := fun k hk => by rw [hu1 k hk, hu k hk]
        ((repeat' first | refine hP _ ?_ | fail); try dsimp only)
        refine ⟨fun c0 => ?_, fun c0 => ?_⟩
        · rw [c0] at hx
          rw [if_pos ⟨hll, hx⟩] at e
          obtain ⟨-, t2, t3⟩ := sA (by rw [hll]; exact hA)
          obtain ⟨y, hy⟩ := t3 F
          ((repeat' first | refine hP _ ?_ | fail); try dsimp only)
          refine ⟨vp_in_nI (by omega) (by omega), ?_⟩
          ((repeat' first | refine hP _ ?_ | fail); try dsimp only)
          refine ⟨vp_in_nI (by omega) (by omega), ?_⟩
          ((repeat' first | refine hP _ ?_ | fail); try dsimp only)
          rw [nI_clamp (by omega), hu1' 75 (by decide), c3, hu1' 76 (by decide), c4]
          refine m_comesTo (c := A) (F := F) (by rw [hu1' 73 (by decide)]; exact t2) (fun a ha => by rw [hu1' 79 (by decide)]; exact hF a ha) hy (fun u2 hu2 => ?_)
          have hu2' : ∀ k, k ≠ 78 → u2 k = v k := fun k hk => by rw [hu2 k hk, hu1' k hk]
          rw [hy] at e
          have hh := h u2 hu2'
          rw [← e] at hh
          unfold lc_cl at hh
          rw [show (some y).getD 0 = y from rfl] at hh
          ((repeat' first | refine hP _ ?_ | fail); try dsimp only)
          refine ⟨fun y0 => ?_, fun y0 => ?_⟩
          · rw [if_neg (Int32.not_lt.mpr y0)] at hh
            ((repeat' first | refine hP _ ?_ | fail); try dsimp only)
            refine ⟨fun y1 => ?_, fun y1 => ?_⟩
            · rw [if_neg (Int32.not_lt.mpr y1)] at hh
              ((repeat' first | refine hP _ ?_ | fail); try dsimp only)
              exact hh
            · rw [if_pos (Int32.not_le.mp y1)] at hh
              ((repeat' first | refine hP _ ?_ | fail); try dsimp only)
              exact hh
          · rw [if_pos (Int32.not_le.mp y0)] at hh
            ((repeat' first | refine hP _ ?_ | fail); try dsimp only)
            exact hh
        · rw [if_neg (fun z => by
            have := z.2
            rw [hx] at this
            exact absurd (Option.some.inj this) c0)] at e
          ((iterate 1 refine hP _ ?_); try dsimp only)
          exact nxt u1 _ hu1' e
  ((iterate 2 refine hP _ ?_); try dsimp only)
  exact key us 0 v none rfl (by omega) (fun _ _ => rfl) hR
set_option maxRecDepth 100000 in
set_option maxHeartbeats 4000000 in
theorem m_holdsAny {l : Nat} (hl : lw_is v us z) (hl256 : l < 256) (hF : ∀ a, a < 10 → v 79 a = F a) (h : ∀ v' : am_V, (∀ k, k ≠ 78 → v' k = v k) → Q (some (.int (b2i (lwH F l us)))) (am_sh, v', w)) : am_run K I am_m (d + 3) 177 [.ref 62, .int (nI l)] (am_sh, v, w) 0 0 Q := by
  refine en_X12_holdsAny rfl ?_
  intro P hP
  obtain ⟨⟨hn, hz⟩, -, -, h15, h2⟩ := hl
  generalize hR : lwH F l us = R at h
  have key : ∀ (ur : List lc_U) (q : Nat) (u : am_V), us.drop q = ur → q ≤ us.length → (∀ k, k ≠ 78 → u k = v k) → lwH F l ur = R → P (cd_X12_holdsAny.drop 2, [some (.ref 62), some (.int (nI l)), some (.int (nI q))], [], (am_sh, u, w), 0, 0) := by
    intro ur
    induction ur with
    | nil =>
      intro q u hd hq hu e
      have := drop_nil hd
      ((repeat' first | refine hP _ ?_ | fail); try dsimp only)
      rw [hu 62 (by decide), h15]
      refine ⟨fun _ => ?_, fun z => absurd (nI_le (by omega) (by omega)) z⟩
      ((repeat' first | refine hP _ ?_ | fail); try dsimp only)
      rw [← e] at h
      exact ⟨Or.inl rfl, h u hu⟩
    | cons a ur ih =>
      intro q u hd hq hu e
      obtain ⟨l', A, T⟩ := a
      obtain ⟨hat, hd2, hlt⟩ := drop_at hd
      obtain ⟨b1, -, b3, ca, ct, ra, rt, re, ⟨-, -, c3, c4, c5⟩, ⟨-, s2, s3⟩, sA⟩ := h2 q l' A T hat
      unfold lwH at e
      ((repeat' first | refine hP _ ?_ | fail); try dsimp only)
      rw [hu 62 (by decide), h15]
      refine ⟨fun z => absurd z (nI_ge hlt (by omega)), fun _ => ?_⟩
      ((repeat' first | refine hP _ ?_ | fail); try dsimp only)
      refine ⟨vp_in_nI (by omega) (by omega), ?_⟩
      ((repeat' first | refine hP _ ?_ | fail); try dsimp only)
      rw [nI_clamp (by omega), hu 74 (by decide), b3]
      have nxt : ∀ (u' : am_V), (∀ k, k ≠ 78 → u' k = v k) → lwH F l ur = R → P (cd_X12_holdsAny.drop 26, [some (.ref 62), some (.int (nI l)), some (.int (nI q))], [], (am_sh, u', w), 0, 0) := by
        intro u' hu' e
        have e2 := ih (q + 1) u' hd2 (by omega) hu' e
        rw [← nI_1 q] at e2
        ((iterate 2 refine hP _ ?_); try dsimp only)
        exact e2
      refine ⟨fun c => ?_, fun c => ?_⟩
      · rw [if_neg (fun z => c (by rw [z.1]))] at e
        exact nxt u hu e
      · have hll : l' = l := (nI_eq (by omega) (by omega)).mp c
        ((repeat' first | refine hP _ ?_ | fail); try dsimp only)
        refine ⟨vp_in_nI (by omega) (by omega), ?_⟩
        ((repeat' first | refine hP _ ?_ | fail); try dsimp only)
        refine ⟨vp_in_nI (by omega) (by omega), ?_⟩
        ((repeat' first | refine hP _ ?_ | fail); try dsimp only)
        rw [nI_clamp (by omega), hu 76 (by decide), c4, hu 77 (by decide), c5]
        obtain ⟨x, hx⟩ : ∃ x, lc_val F T = some x := by
          rcases s3 F with q | q
          · exact ⟨0, q⟩
          · exact ⟨1, q⟩
        refine m_comesTo (c := T) (F := F) (by rw [hu 73 (by decide)]; exact s2) (fun a ha => by rw [hu 79 (by decide)]; exact hF a ha) hx (fun u1 hu1 => ?_)
        have hu1' : ∀ k, k ≠ 78 → u1 k = v k := fun k hk => by rw [hu1 k hk, hu k hk]
        ((repeat' first | refine hP _ ?_ | fail); try dsimp only)
        refine ⟨fun c0 => ?_, fun c0 => ?_⟩
        · rw [if_neg (fun z => by
            have := z.2
            rw [hx] at this
            exact absurd (Option.some.inj this) c0)] at e
          exact nxt u1 hu1' e
        · rw [c0] at hx
          rw [if_pos ⟨hll, hx⟩] at e
          ((repeat' first | refine hP _ ?_ | fail); try dsimp only)
          rw [← e] at h
          exact ⟨Or.inr rfl, h u1 hu1'⟩
  ((iterate 2 refine hP _ ?_); try dsimp only)
  exact key us 0 v rfl (by omega) (fun _ _ => rfl) hR
set_option maxRecDepth 100000 in
set_option maxHeartbeats 4000000 in
theorem m_hasRule {l : Nat} (hl : lw_is v us z) (hl256 : l < 256) (h : Q (some (.int (b2i (lwS l us)))) (am_sh, v, w)) : am_run K I am_m (d + 1) 178 [.ref 62, .int (nI l)] (am_sh, v, w) 0 0 Q := by
  refine en_X12_hasRule rfl ?_
  intro P hP
  obtain ⟨⟨hn, hz⟩, -, -, h15, h2⟩ := hl
  generalize hR : lwS l us = R at h
  have key : ∀ (ur : List lc_U) (q : Nat), us.drop q = ur → q ≤ us.length → lwS l ur = R → P (cd_X12_hasRule.drop 2, [some (.ref 62), some (.int (nI l)), some (.int (nI q))], [], (am_sh, v, w), 0, 0) := by
    intro ur
    induction ur with
    | nil =>
      intro q hd hq e
      have := drop_nil hd
      ((repeat' first | refine hP _ ?_ | fail); try dsimp only)
      rw [h15]
      refine ⟨fun _ => ?_, fun z => absurd (nI_le (by omega) (by omega)) z⟩
      ((repeat' first | refine hP _ ?_ | fail); try dsimp only)
      rw [← e] at h
      exact ⟨Or.inl rfl, h⟩
    | cons a ur ih =>
      intro q hd hq e
      obtain ⟨l', A, T⟩ := a
      obtain ⟨hat, hd2, hlt⟩ := drop_at hd
      obtain ⟨b1, -, b3, -⟩ := h2 q l' A T hat
      unfold lwS at e
      ((repeat' first | refine hP _ ?_ | fail); try dsimp only)
      rw [h15]
      refine ⟨fun z => absurd z (nI_ge hlt (by omega)), fun _ => ?_⟩
      ((repeat' first | refine hP _ ?_ | fail); try dsimp only)
      refine ⟨vp_in_nI (by omega) (by omega), ?_⟩
      ((repeat' first | refine hP _ ?_ | fail); try dsimp only)
      rw [nI_clamp (by omega), b3]
      refine ⟨fun c => ?_, fun c => ?_⟩
      · rw [if_neg (fun z => c (by rw [z]))] at e
        have e2 := ih (q + 1) hd2 (by omega) e
        rw [← nI_1 q] at e2
        ((iterate 2 refine hP _ ?_); try dsimp only)
        exact e2
      · have hll : l' = l := (nI_eq (by omega) (by omega)).mp c
        rw [if_pos hll] at e
        ((repeat' first | refine hP _ ?_ | fail); try dsimp only)
        rw [← e] at h
        exact ⟨Or.inr rfl, h⟩
  ((iterate 2 refine hP _ ?_); try dsimp only)
  exact key us 0 rfl (by omega) hR
end M63
