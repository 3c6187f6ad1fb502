/-! ===== cushions: the class ===== -/
theorem cu_eqI {h H o : Nat} (h1 : h < 2 ^ 20) (h2 : H < 2 ^ 20) (h3 : o < 2 ^ 20) : nI h = nI H - nI o ↔ o + h = H := by
  constructor
  · intro q
    have e : nI o + nI h = nI H := by rw [q, Int32.add_comm, Int32.sub_add_cancel]
    rw [nI_add] at e
    exact (nI_eq (by omega) (by omega)).mp e
  · intro q
    subst q
    rw [← nI_add, Int32.add_comm, Int32.add_sub_cancel]
section M46
variable {K : am_K} {I : am_I} {d : Nat} {sh : List am_S} {v : am_V} {w : am_X} {Q : Option Value → am_H → Prop}
set_option maxRecDepth 100000 in
set_option maxHeartbeats 4000000 in
theorem m_ntz {b : Nat} (h1 : 1 ≤ b) (h2 : b < 256) (h : Q (some (.int (nI (cuZ 7 b)))) (sh, v, w)) : am_run K I am_m (d + 1) 235 [.int (nI b)] (sh, v, w) 0 0 Q := by
  refine en_J6_numberOfTrailingZeros_0f7a4 rfl ?_
  intro P hP
  obtain ⟨hz, _⟩ := cuZ_bits b h2 h1
  have hm := cuZ_mask b h2 h1
  revert h
  generalize cuZ 7 b = z at hz hm
  intro h
  ((iterate 8 refine hP _ ?_); try dsimp only)
  rw [hm]
  have : z = 0 ∨ z = 1 ∨ z = 2 ∨ z = 3 ∨ z = 4 ∨ z = 5 ∨ z = 6 ∨ z = 7 := by omega
  rcases this with rfl | rfl | rfl | rfl | rfl | rfl | rfl | rfl <;> (((repeat' first | refine hP _ ?_ | refine ⟨fun c1 => absurd c1 (by decide), fun _ => ?_⟩ | refine ⟨fun _ => ?_, fun c1 => absurd c1 (by decide)⟩ | refine ⟨am_vin rfl, ?_⟩ | refine ⟨fun c1 => ?_, fun c1 => ?_⟩ | refine ⟨Or.inr rfl, ?_⟩ | refine ⟨Or.inl rfl, ?_⟩ | fail); all_goals (try dsimp only at *))) <;> exact h
set_option maxRecDepth 100000 in
set_option maxHeartbeats 4000000 in
theorem m_leastPile {n i f o : Nat} {t : Nat → Nat} (hn : n ≤ 8) (ht : ∀ j, t j < 256) (hi : i < 2 ^ n) (hf : f ≤ 99) (ho : o ≤ 99) (h46 : ∀ s, s < 2 ^ n → v 46 s = nI (cuH t s 8)) (h1 : fM (cuP t f o i) (2 ^ n) 0 = none → Q (some (.int (-1))) (am_sh, v, w)) (h0 : ∀ s, fM (cuP t f o i) (2 ^ n) 0 = some s → Q (some (.int (nI s))) (am_sh, v, w)) : am_run K I am_m (d + 1) 7 [.ref 43, .int (nI (2 ^ n - 1 - i)), .int (nI (f + cuH t i 8) - nI o)] (am_sh, v, w) 0 0 Q := by
  refine en_X0_leastPile rfl ?_
  intro P hP
  have hp8 : 2 ^ n ≤ 2 ^ 8 := Nat.pow_le_pow_right (by decide) hn
  have hH : ∀ s, cuH t s 8 ≤ 2040 := fun s => cuH_le ht s 8
  have hin := hH i
  generalize hr : 2 ^ n - 1 - i = r
  have hrl : r < 2 ^ n := by omega
  have sb : ∀ s, s < 2 ^ n → (s &&& r = s ↔ i &&& s = 0) := fun s hs => by rw [← hr]; exact cu_sub (by omega) hi hs
  have fin : ∀ (x : Int32), ((x = -1 ∧ ∀ b, b &&& r = b → ¬ (o + cuH t b 8 = f + cuH t i 8)) ∨ ∃ g, x = nI g ∧ g &&& r = g ∧ o + cuH t g 8 = f + cuH t i 8 ∧ ∀ b, b &&& r = b → o + cuH t b 8 = f + cuH t i 8 → g ≤ b) → Q (some (.int x)) (am_sh, v, w) := by
    intro x hx
    rcases hx with ⟨rfl, hx⟩ | ⟨g, rfl, g1, g2, g3⟩
    · refine h1 (fM_none (fun j _ hj => ?_))
      unfold cuP
      cases hA : Nat.beq (i &&& j) 0 with
      | false => rfl
      | true =>
        have e := (sb j (by omega)).mpr (Nat.eq_of_beq_eq_true hA)
        rw [am_bne (hx j e)]
        rfl
    · have hg : g < 2 ^ n := by
        have : g ≤ r := by rw [← g1]; exact Nat.and_le_right
        omega
      refine h0 g (fM_some (by omega) (by omega) ?_ (fun j _ hj => ?_))
      · unfold cuP
        rw [(sb g hg).mp g1, g2, am_beq, am_beq]
        rfl
      · unfold cuP
        cases hA : Nat.beq (i &&& j) 0 with
        | false => rfl
        | true =>
          have e := (sb j (by omega)).mpr (Nat.eq_of_beq_eq_true hA)
          rw [am_bne (fun z => absurd (g3 j e z) (by omega))]
          rfl
  have key : ∀ (s c : Nat) (x : Int32), s &&& r = s → c + s ≤ r → ((x = -1 ∧ ∀ b, b &&& r = b → s < b → ¬ (o + cuH t b 8 = f + cuH t i 8)) ∨ ∃ g, x = nI g ∧ g &&& r = g ∧ o + cuH t g 8 = f + cuH t i 8 ∧ ∀ b, b &&& r = b → s < b → o + cuH t b 8 = f + cuH t i 8 → g ≤ b) → P (cd_X0_leastPile.drop 6, [some (.ref 43), some (.int (nI r)), some (.int (nI (f + cuH t i 8) - nI o)), some (.int x), some (.int (nI s)), some (.int (nI c))], [], (am_sh, v, w), 0, 0) := by
    intro s
    induction s using Nat.strongRecOn with
    | ind s ih =>
    intro c x hs hc hx
    have next : ∀ (x : Int32), ((x = -1 ∧ ∀ b, b &&& r = b → s ≤ b → ¬ (o + cuH t b 8 = f + cuH t i 8)) ∨ ∃ g, x = nI g ∧ g &&& r = g ∧ o + cuH t g 8 = f + cuH t i 8 ∧ ∀ b, b &&& r = b → s ≤ b → o + cuH t b 8 = f + cuH t i 8 → g ≤ b) → P (cd_X0_leastPile.drop 17, [some (.ref 43), some (.int (nI r)), some (.int (nI (f + cuH t i 8) - nI o)), some (.int x), some (.int (nI s)), some (.int (nI c))], [], (am_sh, v, w), 0, 0) := by
      intro x hx
      ((repeat' first | refine hP _ ?_ | fail); try dsimp only)
      refine ⟨fun z => ?_, fun z => ?_⟩
      · have hs0 : ¬ s = 0 := fun q => z (by rw [q]; rfl)
        have hlt : (s - 1) &&& r ≤ s - 1 := Nat.and_le_left
        have hle := fun b hb hbs => cu_prev 8 r s b (by omega) hb hs hbs
        have e := ih ((s - 1) &&& r) (by omega) (c + 1) x (by rw [Nat.and_assoc, Nat.and_self]) (by omega) (by
          rcases hx with ⟨q1, q2⟩ | ⟨g, q1, q2, q3, q4⟩
          · exact Or.inl ⟨q1, fun b hb hbs => q2 b hb (by
              rcases Nat.lt_or_ge b s with y | y
              · have := hle b hb y
                omega
              · exact y)⟩
          · exact Or.inr ⟨g, q1, q2, q3, fun b hb hbs => q4 b hb (by
              rcases Nat.lt_or_ge b s with y | y
              · have := hle b hb y
                omega
              · exact y)⟩)
        rw [← nI_1, ← andNN (by omega) (by omega), ← pk_sub (b := 1) (by omega)] at e
        ((iterate 8 refine hP _ ?_); try dsimp only)
        exact e
      · have hs0 : s = 0 := (nI_eq (b := 0) (by omega) (by omega)).mp z
        ((repeat' first | refine hP _ ?_ | fail); try dsimp only)
        refine fin x ?_
        rcases hx with ⟨q1, q2⟩ | ⟨g, q1, q2, q3, q4⟩
        · exact Or.inl ⟨q1, fun b hb => q2 b hb (by omega)⟩
        · exact Or.inr ⟨g, q1, q2, q3, fun b hb => q4 b hb (by omega)⟩
    ((repeat' first | refine hP _ ?_ | fail); try dsimp only)
    refine ⟨fun z => absurd ((nI_ltI (by omega) (by omega)).mp z) (by omega), fun _ => ?_⟩
    ((repeat' first | refine hP _ ?_ | fail); try dsimp only)
    refine ⟨vp_in_nI (by omega) (by omega), ?_⟩
    ((repeat' first | refine hP _ ?_ | fail); try dsimp only)
    rw [nI_clamp (by omega), h46 s (by omega)]
    have hHs := hH s
    refine ⟨fun z => ?_, fun z => ?_⟩
    · have hno : ¬ (o + cuH t s 8 = f + cuH t i 8) := fun q => z ((cu_eqI (by omega) (by omega) (by omega)).mpr q)
      refine next x ?_
      rcases hx with ⟨q1, q2⟩ | ⟨g, q1, q2, q3, q4⟩
      · exact Or.inl ⟨q1, fun b hb hbs => by
          by_cases y : b = s
          · rw [y]; exact hno
          · exact q2 b hb (by omega)⟩
      · exact Or.inr ⟨g, q1, q2, q3, fun b hb hbs hm => by
          by_cases y : b = s
          · rw [y] at hm; exact absurd hm hno
          · exact q4 b hb (by omega) hm⟩
    · have hyes : o + cuH t s 8 = f + cuH t i 8 := (cu_eqI (by omega) (by omega) (by omega)).mp z
      have e := next (nI s) (Or.inr ⟨s, rfl, hs, hyes, fun b _ hbs _ => hbs⟩)
      ((iterate 2 refine hP _ ?_); try dsimp only)
      exact e
  have e := key r 0 (-1) (Nat.and_self r) (by omega) (Or.inl ⟨rfl, fun b hb hbs => absurd (show b ≤ r by rw [← hb]; exact Nat.and_le_right) (by omega)⟩)
  ((iterate 6 refine hP _ ?_); try dsimp only)
  exact e
def cuV (st : Option (Nat × Nat × Nat)) (v : am_V) : Prop := match st with
  | none => v 43 8 = -1
  | some (x, y, z) => v 43 8 = nI x ∧ v 43 9 = nI y ∧ v 43 10 = nI z ∧ x ≤ 3000
theorem cuV_up {st : Option (Nat × Nat × Nat)} {v v' : am_V} (h : cuV st v) (e : v' 43 = v 43) : cuV st v' := by
  unfold cuV at *
  rw [e]
  exact h
set_option maxRecDepth 100000 in
set_option maxHeartbeats 4000000 in
theorem m_pile {n f o tn : Nat} {t : Nat → Nat} (hn : 1 ≤ n ∧ n ≤ 8) (ht : ∀ j, t j < 256) (hf : f ≤ 99) (ho : o ≤ 99) (htn : v 1 1 = nI tn) (htn2 : tn ≤ 260) (hnt : n ≤ tn) (hv : ∀ j, j < tn → v 2 j = nI (t j)) (h : ∀ v' : am_V, cuV (cuR t n f o (2 ^ n) 0 none) v' → (∀ k, k ≠ 43 → k ≠ 46 → v' k = v k) → Q none (am_sh, v', w)) : am_run K I am_m (d + 2) 6 [.ref 43, .int (nI n), .int (nI f), .int (nI o)] (am_sh, v, w) 0 0 Q := by
  refine en_X0_pile rfl ?_
  intro P hP
  have hp8 : 2 ^ n ≤ 2 ^ 8 := Nat.pow_le_pow_right (by decide) hn.2
  have hp1 : 0 < 2 ^ n := Nat.pow_pos (by decide)
  have hH : ∀ s, cuH t s 8 ≤ 2040 := fun s => cuH_le ht s 8
  have hp2 : 2 ^ n - 1 < 2 ^ n := by omega
  have loop : ∀ (k i : Nat) (u : am_V) (st : Option (Nat × Nat × Nat)) (l6 : Int32) (l7 : Option Value), i + k = 2 ^ n → cuV st u → (∀ s, s < 2 ^ n → u 46 s = nI (cuH t s 8)) → (∀ k, k ≠ 43 → k ≠ 46 → u k = v k) → cuR t n f o k i st = cuR t n f o (2 ^ n) 0 none → P (cd_X0_pile.drop 45, [some (.ref 43), some (.int (nI n)), some (.int (nI f)), some (.int (nI o)), some (.int (nI (2 ^ n - 1))), some (.int (nI i)), some (.int l6), l7], [], (am_sh, u, w), 0, 0) := by
    intro k
    induction k with
    | zero =>
      intro i u st l6 l7 hi hst h46 hfr hres
      ((repeat' first | refine hP _ ?_ | fail); try dsimp only)
      refine ⟨fun _ => ?_, fun z => absurd (nI_lt (show 2 ^ n - 1 < i by omega) (by omega)) z⟩
      ((repeat' first | refine hP _ ?_ | fail); try dsimp only)
      exact h u (by rw [← hres]; exact hst) hfr
    | succ k ih =>
      intro i u st l6 l7 hi hst h46 hfr hres
      have hin := hH i
      have nx : ∀ (u2 : am_V) (l7 : Option Value), cuV (cuN t n f o i st) u2 → (∀ k, k ≠ 43 → u2 k = u k) → P (cd_X0_pile.drop 84, [some (.ref 43), some (.int (nI n)), some (.int (nI f)), some (.int (nI o)), some (.int (nI (2 ^ n - 1))), some (.int (nI i)), some (.int (nI (f + cuH t i 8))), l7], [], (am_sh, u2, w), 0, 0) := by
        intro u2 l7 hc hu2
        have e := ih (i + 1) u2 (cuN t n f o i st) (nI (f + cuH t i 8)) l7 (by omega) hc (fun s hs => by rw [hu2 46 (by decide)]; exact h46 s hs) (fun k q1 q2 => by rw [hu2 k q1]; exact hfr k q1 q2) hres
        rw [← nI_1] at e
        ((iterate 2 refine hP _ ?_); try dsimp only)
        exact e
      have skip : cuN t n f o i st = st → P (cd_X0_pile.drop 71, [some (.ref 43), some (.int (nI n)), some (.int (nI f)), some (.int (nI o)), some (.int (nI (2 ^ n - 1))), some (.int (nI i)), some (.int (nI (f + cuH t i 8))), l7], [.int (-1)], (am_sh, u, w), 0, 0) := by
        intro e0
        ((repeat' first | refine hP _ ?_ | fail); try dsimp only)
        refine ⟨fun _ => ?_, fun z => absurd rfl z⟩
        exact nx u _ (by rw [e0]; exact hst) (fun _ _ => rfl)
      ((repeat' first | refine hP _ ?_ | fail); try dsimp only)
      refine ⟨fun z => absurd ((nI_ltI (by omega) (by omega)).mp z) (by omega), fun _ => ?_⟩
      ((repeat' first | refine hP _ ?_ | fail); try dsimp only)
      refine ⟨vp_in_nI (by omega) (by omega), ?_⟩
      dsimp only
      rw [nI_clamp (by omega), h46 i (by omega)]
      ((repeat' first | refine hP _ ?_ | fail); try dsimp only)
      rw [nI_add]
      by_cases hg : cuG st (f + cuH t i 8) = true
      · have hgt : ¬ nI (f + cuH t i 8) ≤ u 43 8 := by
          cases st with
          | none =>
            rw [show u 43 8 = -1 from hst]
            intro z
            have := Int32.le_trans (nI_pos' (n := f + cuH t i 8) (by omega)) z
            exact absurd this (by decide)
          | some q =>
            obtain ⟨x, y, z⟩ := q
            rw [hst.1]
            exact nI_ge (am_blt hg) (by omega)
        refine ⟨fun z => absurd z hgt, fun _ => ?_⟩
        ((repeat' first | refine hP _ ?_ | fail); try dsimp only)
        rw [cu_not n (by omega) i (by omega) (by omega)]
        refine m_leastPile hn.2 ht (by omega) hf ho h46 (fun hnone => ?_) (fun s hsome => ?_)
        · ((repeat' first | refine hP _ ?_ | fail); try dsimp only)
          refine ⟨fun _ => ?_, fun z => absurd rfl z⟩
          exact nx u _ (by rw [show cuN t n f o i st = st by unfold cuN; rw [if_pos hg, hnone]]; exact hst) (fun _ _ => rfl)
        · have hs2 := fM_lt hsome
          ((repeat' first | refine hP _ ?_ | fail); try dsimp only)
          refine ⟨fun z => absurd (show (0 : Int32) ≤ -1 by rw [← z]; exact nI_pos' (by omega)) (by decide), fun _ => ?_⟩
          have e := nx (am_up (am_up (am_up u 43 8 (nI (f + cuH t i 8))) 43 9 (nI i)) 43 10 (nI s)) (some (.int (nI s))) (by
            rw [show cuN t n f o i st = some (f + cuH t i 8, i, s) by unfold cuN; rw [if_pos hg, hsome]]
            refine ⟨?_, ?_, ?_, by omega⟩ <;> simp [am_up_eq]) (fun k hk => by rw [am_up_ne _ _ _ hk, am_up_ne _ _ _ hk, am_up_ne _ _ _ hk])
          ((iterate 9 refine hP _ ?_); try dsimp only)
          exact e
      · have hle : nI (f + cuH t i 8) ≤ u 43 8 := by
          cases st with
          | none => exact absurd rfl hg
          | some q =>
            obtain ⟨x, y, z⟩ := q
            rw [hst.1]
            refine nI_le ?_ (by have := hst.2.2.2; omega)
            rcases Nat.lt_or_ge x (f + cuH t i 8) with q | q
            · exact absurd (Nat.ble_eq_true_of_le q) hg
            · exact q
        refine ⟨fun _ => ?_, fun z => absurd hle z⟩
        ((iterate 1 refine hP _ ?_); try dsimp only)
        exact skip (by unfold cuN; rw [if_neg hg])
  have fill : ∀ (k i : Nat) (u : am_V) (l6 : Option Value), 1 ≤ i → i + k = 2 ^ n → (∀ s, s < i → u 46 s = nI (cuH t s 8)) → (∀ k, k ≠ 46 → u k = v k) → (k = 0 → ∃ z, l6 = some (.int z)) → P (cd_X0_pile.drop 15, [some (.ref 43), some (.int (nI n)), some (.int (nI f)), some (.int (nI o)), some (.int (nI (2 ^ n - 1))), some (.int (nI i)), l6, none], [], (am_sh, u, w), 0, 0) := by
    intro k
    induction k with
    | zero =>
      intro i u l6 hi1 hi h46 hfr hl6
      obtain ⟨z6, rfl⟩ := hl6 rfl
      ((repeat' first | refine hP _ ?_ | fail); try dsimp only)
      refine ⟨fun _ => ?_, fun z => absurd (nI_lt (show 2 ^ n - 1 < i by omega) (by omega)) z⟩
      have e := loop (2 ^ n) 0 (am_up u 43 8 (-1)) none z6 none (by omega) (by show am_up u 43 8 (-1) 43 8 = -1; simp [am_up_eq]) (fun s hs => by rw [am_up_ne _ _ _ (by decide)]; exact h46 s (by omega)) (fun k q1 q2 => by rw [am_up_ne _ _ _ q1]; exact hfr k q2) rfl
      ((iterate 5 refine hP _ ?_); try dsimp only)
      exact e
    | succ k ih =>
      intro i u l6 hi1 hi h46 hfr hl6
      ((repeat' first | refine hP _ ?_ | fail); try dsimp only)
      refine ⟨fun z => absurd ((nI_ltI (by omega) (by omega)).mp z) (by omega), fun _ => ?_⟩
      ((repeat' first | refine hP _ ?_ | fail); try dsimp only)
      refine m_ntz hi1 (by omega) ?_
      have hz := cuZ_n n (by omega) i (by omega) hi1 (by omega)
      ((repeat' first | refine hP _ ?_ | fail); try dsimp only)
      refine m_byteAt (n := tn) (by omega) (by rw [hfr 1 (by decide)]; exact htn) htn2 ?_
      rw [show u 2 (cuZ 7 i) = nI (t (cuZ 7 i)) by rw [hfr 2 (by decide)]; exact hv _ (by omega)]
      have hand : i &&& (i - 1) ≤ i - 1 := Nat.and_le_right
      have e := ih (i + 1) (am_up u 46 i (nI (cuH t i 8))) (some (.int (nI (t (cuZ 7 i))))) (by omega) (by omega) (fun s hs => by
        rw [am_up_eq]
        by_cases q : s = i
        · simp [q]
        · simp [q]
          exact h46 s (by omega)) (fun k hk => by rw [am_up_ne _ _ _ hk]; exact hfr k hk) (fun _ => ⟨_, rfl⟩)
      rw [← nI_1, cuH_low hi1 (by omega), ← nI_add] at e
      have hgo : P (cd_X0_pile.drop 34, [some (.ref 43), some (.int (nI n)), some (.int (nI f)), some (.int (nI o)), some (.int (nI (2 ^ n - 1))), some (.int (nI i)), some (.int (nI (t (cuZ 7 i)))), none], [.int (nI i &&& (nI i - 1)), .ref 46, .int (nI i), .ref 46], (am_sh, u, w), 0, 0) := by
        rw [show nI i - 1 = nI (i - 1) from pk_sub (b := 1) hi1, andNN (by omega) (by omega)]
        ((repeat' first | refine hP _ ?_ | fail); try dsimp only)
        refine ⟨vp_in_nI (by omega) (by omega), ?_⟩
        dsimp only
        rw [nI_clamp (by omega), h46 _ (by omega)]
        ((repeat' first | refine hP _ ?_ | fail); try dsimp only)
        refine ⟨vp_in_nI (by omega) (by omega), ?_⟩
        dsimp only
        rw [nI_clamp (by omega)]
        ((iterate 2 refine hP _ ?_); try dsimp only)
        exact e
      ((iterate 11 refine hP _ ?_); try dsimp only)
      exact hgo
  ((repeat' first | refine hP _ ?_ | fail); try dsimp only)
  rw [show (if (8 : Int32) < nI n then (8 : Int32) else nI n) = nI n from if_neg (fun z => absurd ((nI_ltI (a := 8) (by omega) (by omega)).mp z) (by omega))]
  have e := fill (2 ^ n - 1) 1 (am_up v 46 0 0) none (by omega) (by omega) (fun s hs => by
    rw [show s = 0 by omega, cuH_0]
    simp [am_up_eq]
    rfl) (fun k hk => by rw [am_up_ne _ _ _ hk]) (fun hz => by
      have : 2 ^ 1 ≤ 2 ^ n := Nat.pow_le_pow_right (by decide) hn.1
      omega)
  rw [← cu_all n (by omega)] at e
  refine ⟨am_vin rfl, ?_⟩
  ((iterate 2 refine hP _ ?_); try dsimp only)
  exact e
end M46
