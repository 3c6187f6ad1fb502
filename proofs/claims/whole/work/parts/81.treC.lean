/-! ===== treaties: moments; a treaty made, the class ===== -/
noncomputable def trb (ls : List tr_L) (b a : Nat) : Bool := @decide (tr_ah ls b a) (Classical.propDecidable _)
theorem trb_iff {ls : List tr_L} {b a : Nat} : trb ls b a = true ↔ tr_ah ls b a := by
  unfold trb
  exact @decide_eq_true_iff _ (Classical.propDecidable _)
def mxP (r : Nat → Bool) (g : Nat → Nat) : Nat → Nat
  | 0 => 0
  | j + 1 => if r j = true then max (mxP r g j) (g j) else mxP r g j
theorem mxP_ge {r : Nat → Bool} {g : Nat → Nat} : ∀ {j i : Nat}, i < j → r i = true → g i ≤ mxP r g j
  | 0, i, h, _ => absurd h (by omega)
  | j + 1, i, h, hr => by
    unfold mxP
    rcases Nat.lt_or_ge i j with q | q
    · have := mxP_ge (g := g) q hr
      split <;> omega
    · have : i = j := by omega
      subst this
      rw [if_pos hr]
      omega
theorem mxP_at {r : Nat → Bool} {g : Nat → Nat} : ∀ j, mxP r g j = 0 ∨ ∃ i, i < j ∧ r i = true ∧ mxP r g j = g i
  | 0 => Or.inl rfl
  | j + 1 => by
    unfold mxP
    by_cases h : r j = true
    · rw [if_pos h]
      rcases Nat.le_total (mxP r g j) (g j) with q | q
      · exact Or.inr ⟨j, by omega, h, by omega⟩
      · rcases mxP_at (r := r) (g := g) j with e | ⟨i, h1, h2, h3⟩
        · rw [e] at q ⊢
          left
          omega
        · exact Or.inr ⟨i, by omega, h2, by omega⟩
    · rw [if_neg h]
      rcases mxP_at (r := r) (g := g) j with e | ⟨i, h1, h2, h3⟩
      · exact Or.inl e
      · exact Or.inr ⟨i, by omega, h2, h3⟩
theorem mxP_congr {r : Nat → Bool} {g g' : Nat → Nat} : ∀ j, (∀ i, i < j → r i = true → g i = g' i) → mxP r g j = mxP r g' j
  | 0, _ => rfl
  | j + 1, h => by
    unfold mxP
    rw [mxP_congr j (fun i hi => h i (by omega))]
    by_cases q : r j = true
    · rw [if_pos q, if_pos q, h j (by omega) q]
    · rw [if_neg q, if_neg q]
def ctP (r : Nat → Bool) : Nat → Nat
  | 0 => 0
  | j + 1 => ctP r j + (if r j = true then 1 else 0)
theorem ct_le {r s : Nat → Bool} : ∀ {n : Nat}, (∀ j, j < n → r j = true → s j = true) → ctP r n ≤ ctP s n
  | 0, _ => Nat.le_refl _
  | n + 1, h => by
    have := ct_le (fun j hj => h j (Nat.lt_succ_of_lt hj))
    unfold ctP
    by_cases q : r n = true
    · rw [if_pos q, if_pos (h n (by omega) q)]
      omega
    · rw [if_neg q]
      omega
theorem ct_lt {r s : Nat → Bool} : ∀ {n i : Nat}, (∀ j, j < n → r j = true → s j = true) → i < n → s i = true → r i = false → ctP r n < ctP s n
  | 0, i, _, h, _, _ => absurd h (by omega)
  | n + 1, i, h, hi, h1, h2 => by
    unfold ctP
    rcases Nat.lt_or_ge i n with q | q
    · have := ct_lt (fun j hj => h j (Nat.lt_succ_of_lt hj)) q h1 h2
      by_cases z : r n = true
      · rw [if_pos z, if_pos (h n (by omega) z)]
        omega
      · rw [if_neg z]
        omega
    · have : i = n := by omega
      subst this
      have := ct_le (r := r) (s := s) (n := i) (fun j hj => h j (Nat.lt_succ_of_lt hj))
      rw [h2, if_neg (by decide), if_pos h1]
      omega
theorem ct_n {r : Nat → Bool} : ∀ n, ctP r n ≤ n
  | 0 => Nat.le_refl _
  | n + 1 => by
    have := ct_n (r := r) n
    unfold ctP
    split <;> omega
noncomputable def mmF (ls : List tr_L) : Nat → Nat → Nat
  | 0, _ => 1
  | t + 1, a => mxP (fun b => trb ls b a) (mmF ls t) 16 + 1
theorem pc_lt {ls : List tr_L} (hn : ¬ tr_con ls) {a b : Nat} (hb : b < 16) (h : tr_ah ls b a) : ctP (fun z => trb ls z b) 16 < ctP (fun z => trb ls z a) 16 := by
  refine ct_lt (i := b) (fun j _ hj => trb_iff.mpr (tr_ah_tr (trb_iff.mp hj) h)) hb (trb_iff.mpr h) ?_
  cases q : trb ls b b
  · rfl
  · exact absurd ⟨b, trb_iff.mp q⟩ hn
theorem mmF_st {ls : List tr_L} (hn : ¬ tr_con ls) : ∀ (c a : Nat), ctP (fun z => trb ls z a) 16 ≤ c → ∀ t, c ≤ t → mmF ls (t + 1) a = mmF ls t a := by
  intro c
  induction c with
  | zero =>
    intro a ha t _
    have no : ∀ b, b < 16 → ¬ trb ls b a = true := fun b hb q => by
      have := pc_lt hn hb (trb_iff.mp q)
      omega
    have one : ∀ s, mmF ls (s + 1) a = 1 := fun s => by
      show mxP _ _ 16 + 1 = 1
      rcases mxP_at (r := fun b => trb ls b a) (g := mmF ls s) 16 with e | ⟨i, h1, h2, h3⟩
      · rw [e]
      · exact absurd h2 (no i h1)
    rw [one]
    cases t with
    | zero => rfl
    | succ t => rw [one]
  | succ c ih =>
    intro a ha t ht
    cases t with
    | zero => exact absurd ht (by omega)
    | succ t =>
      show mxP _ _ 16 + 1 = mxP _ _ 16 + 1
      congr 1
      refine mxP_congr 16 (fun i hi hr => ?_)
      have := pc_lt hn hi (trb_iff.mp hr)
      exact ih i (by omega) t (by omega)
theorem tr_mo_ex {ls : List tr_L} (hn : ¬ tr_con ls) : ∃ M : Nat → Nat, tr_mo ls M := by
  refine ⟨mmF ls 16, ?_⟩
  have e : ∀ a, mmF ls 16 a = mxP (fun b => trb ls b a) (mmF ls 16) 16 + 1 := fun a => by
    have q : mxP (fun b => trb ls b a) (mmF ls 15) 16 = mxP (fun b => trb ls b a) (mmF ls 16) 16 := mxP_congr 16 (fun i hi hr => by
      have h1 := pc_lt hn hi (trb_iff.mp hr)
      have h2 := ct_n (r := fun z => trb ls z a) 16
      exact (mmF_st hn 15 i (by omega) 15 (by omega)).symm)
    show mxP (fun b => trb ls b a) (mmF ls 15) 16 + 1 = mxP (fun b => trb ls b a) (mmF ls 16) 16 + 1
    rw [q]
  have at_ : ∀ a, mmF ls 16 a = 1 ∨ ∃ b, b < 16 ∧ tr_ah ls b a ∧ mmF ls 16 a = mmF ls 16 b + 1 := fun a => by
    rcases mxP_at (r := fun b => trb ls b a) (g := mmF ls 16) 16 with q | ⟨i, h1, h2, h3⟩
    · left
      rw [e, q]
    · right
      exact ⟨i, h1, trb_iff.mp h2, by rw [e, h3]⟩
  have bd : ∀ (c a : Nat), ctP (fun z => trb ls z a) 16 ≤ c → mmF ls 16 a ≤ c + 1 := by
    intro c
    induction c with
    | zero =>
      intro a ha
      rcases at_ a with q | ⟨b, hb, h1, h2⟩
      · omega
      · have := pc_lt hn hb h1
        omega
    | succ c ih =>
      intro a ha
      rcases at_ a with q | ⟨b, hb, h1, h2⟩
      · omega
      · have := pc_lt hn hb h1
        have := ih b (by omega)
        omega
  intro a ha
  have h15 : ctP (fun z => trb ls z a) 16 ≤ 15 := by
    have := ct_lt (r := fun z => trb ls z a) (s := fun _ => true) (n := 16) (i := a) (fun _ _ _ => rfl) ha rfl (by
      cases q : trb ls a a
      · rfl
      · exact absurd ⟨a, trb_iff.mp q⟩ hn)
    have := ct_n (r := fun _ => true) 16
    omega
  refine ⟨⟨by rw [e]; omega, by have := bd 15 a h15; omega⟩, fun b hb h => ?_, at_ a⟩
  rw [e a]
  have := mxP_ge (r := fun b => trb ls b a) (g := mmF ls 16) hb (trb_iff.mpr h)
  omega
def mbF (acts : Int32) (mo : Nat → Int32) : Nat → Int32
  | 0 => 0
  | j + 1 => if (acts >>> (nI j &&& 31)) &&& 1 = 0 then mbF acts mo j else f_mx (mbF acts mo j) (mo j)
theorem mbF_max {acts : Int32} {S : Nat → Prop} (hS : tr_set acts S) {mo : Nat → Int32} {g : Nat → Nat} (hg : ∀ b, b < 16 → S b → mo b = nI (g b) ∧ g b ≤ 1000) : ∀ j, j ≤ 16 → ∃ y, mbF acts mo j = nI y ∧ y ≤ 1000 ∧ (∀ b, b < j → S b → g b ≤ y) ∧ (y = 0 ∨ ∃ b, b < j ∧ S b ∧ y = g b)
  | 0, _ => ⟨0, rfl, by omega, fun b hb => absurd hb (by omega), Or.inl rfl⟩
  | j + 1, hj => by
    obtain ⟨y, e, hy, h1, h2⟩ := mbF_max hS hg j (by omega)
    unfold mbF
    by_cases c : (acts >>> (nI j &&& 31)) &&& 1 = 0
    · rw [if_pos c]
      have c := (ts_has hS (b := j) (by omega)).mp c
      refine ⟨y, e, hy, fun b hb q => ?_, h2.elim Or.inl (fun ⟨b, t1, t2⟩ => Or.inr ⟨b, by omega, t2⟩)⟩
      rcases Nat.lt_or_ge b j with t | t
      · exact h1 b t q
      · have : b = j := by omega
        subst this
        exact absurd q c
    · rw [if_neg c]
      have c : S j := Classical.byContradiction (fun q => c ((ts_has hS (b := j) (by omega)).mpr q))
      obtain ⟨g1, g2⟩ := hg j (by omega) c
      rw [e, g1]
      unfold f_mx
      by_cases t : nI y < nI (g j)
      · rw [if_pos t]
        have t := (nI_ltI (by omega) (by omega)).mp t
        refine ⟨g j, rfl, g2, fun b hb q => ?_, Or.inr ⟨j, by omega, c, rfl⟩⟩
        rcases Nat.lt_or_ge b j with z | z
        · have := h1 b z q
          omega
        · have : b = j := by omega
          subst this
          omega
      · rw [if_neg t]
        have t : g j ≤ y := Nat.le_of_not_lt (fun q => t (nI_lt q (by omega)))
        refine ⟨y, rfl, hy, fun b hb q => ?_, h2.elim Or.inl (fun ⟨b, t1, t2⟩ => Or.inr ⟨b, by omega, t2⟩)⟩
        rcases Nat.lt_or_ge b j with z | z
        · exact h1 b z q
        · have : b = j := by omega
          subst this
          exact t
section M81
variable {K : am_K} {I : am_I} {d : Nat} {v : am_V} {w : am_X} {Q : Option Value → am_H → Prop}
set_option maxRecDepth 100000 in
set_option maxHeartbeats 4000000 in
theorem m_behind {acts : Int32} (h : Q (some (.int (mbF acts (v 25) 16 + 1))) (am_sh, v, w)) : am_run K I am_m (d + 1) 99 [.ref 22, .int acts] (am_sh, v, w) 0 0 Q := by
  refine en_X9_momentBehind rfl ?_
  intro P hP
  have key : ∀ (m i : Nat), i + m = 16 → P (cd_X9_momentBehind.drop 4, [some (.ref 22), some (.int acts), some (.int (mbF acts (v 25) i)), some (.int (nI i))], [], (am_sh, v, w), 0, 0) := by
    intro m
    induction m with
    | zero =>
      intro i hi
      have hi : i = 16 := by omega
      subst hi
      ((repeat' first | refine hP _ ?_ | fail); try dsimp only)
      refine ⟨fun _ => ?_, fun c => absurd (nI_le (a := 16) (b := 16) (by omega) (by omega)) c⟩
      ((repeat' first | refine hP _ ?_ | fail); try dsimp only)
      exact h
    | succ m ih =>
      intro i hi
      have e := ih (i + 1) (by omega)
      unfold mbF at e
      ((repeat' first | refine hP _ ?_ | fail); try dsimp only)
      refine ⟨fun c => absurd c (nI_ge (b := 16) (by omega) (by omega)), fun _ => ?_⟩
      ((repeat' first | refine hP _ ?_ | fail); try dsimp only)
      refine ⟨fun c => ?_, fun c => ?_⟩
      · rw [if_pos c] at e
        ((iterate 2 refine hP _ ?_); try dsimp only)
        rw [nI_1]
        exact e
      · rw [if_neg c] at e
        ((repeat' first | refine hP _ ?_ | fail); try dsimp only)
        refine ⟨vp_in_nI (by omega) (by omega), ?_⟩
        dsimp only
        rw [nI_clamp (by omega)]
        ((iterate 4 refine hP _ ?_); try dsimp only)
        rw [nI_1]
        exact e
  ((iterate 4 refine hP _ ?_); try dsimp only)
  exact key 16 0 rfl
set_option maxRecDepth 100000 in
set_option maxHeartbeats 4000000 in
theorem m_fill25 (h : ∀ v' : am_V, (∀ i, i < 16 → v' 25 i = 1) → (∀ k, k ≠ 25 → v' k = v k) → Q none (am_sh, v', w)) : am_run K I am_m (d + 1) 237 [.ref 25, .int 1] (am_sh, v, w) 0 0 Q := by
  refine en_J7_fill_53178 rfl ?_
  intro P hP
  have key : ∀ (k i : Nat) (u : am_V), i + k = 16 → (∀ j, j < i → u 25 j = 1) → (∀ k, k ≠ 25 → u k = v k) → P (cd_J7_fill_53178.drop 5, [some (.ref 25), some (.int 1), some (.int (nI i)), some (.int (nI 16))], [], (am_sh, u, w), 0, 0) := by
    intro k
    induction k with
    | zero =>
      intro i u hi hu hf
      ((repeat' first | refine hP _ ?_ | fail); try dsimp only)
      refine ⟨fun _ => ?_, fun z => absurd (nI_le (show 16 ≤ i by omega) (by omega)) z⟩
      ((repeat' first | refine hP _ ?_ | fail); try dsimp only)
      exact h u (fun j hj => hu j (by omega)) hf
    | succ k ih =>
      intro i u hi hu hf
      have e := ih (i + 1) (am_up u 25 i 1) (by omega) (fun j hj => by
        rw [am_up_eq]
        by_cases q : j = i
        · rw [if_pos ⟨rfl, q⟩]
        · rw [if_neg (fun z => q z.2)]
          exact hu j (by omega)) (fun k hk => by rw [am_up_ne _ _ _ hk]; exact hf k hk)
      rw [← nI_1] at e
      ((repeat' first | refine hP _ ?_ | fail); try dsimp only)
      refine ⟨fun z => absurd z (nI_ge (by omega) (by omega)), fun _ => ?_⟩
      ((repeat' first | refine hP _ ?_ | fail); try dsimp only)
      refine ⟨vp_in_nI (by omega) (by omega), ?_⟩
      dsimp only
      rw [nI_clamp (by omega)]
      ((iterate 2 refine hP _ ?_); try dsimp only)
      exact e
  ((iterate 5 refine hP _ ?_); try dsimp only)
  exact key 16 0 v rfl (fun j hj => absurd hj (by omega)) (fun _ _ => rfl)
set_option maxRecDepth 100000 in
set_option maxHeartbeats 4000000 in
theorem m_findMo (h : ∀ v' : am_V, (∀ k, k ≠ 25 → v' k = v k) → (∀ ls M, tr_know v ls → tr_mo ls M → ∀ a, a < 16 → v' 25 a = nI (M a)) → Q none (am_sh, v', w)) : am_run K I am_m (d + 2) 98 [.ref 22] (am_sh, v, w) 0 0 Q := by
  refine en_X9_findMoments rfl ?_
  intro P hP
  have key : ∀ (m t : Nat) (u : am_V) (l2 : Option Value), t + m = 16 → (∀ k, k ≠ 25 → u k = v k) → (∀ ls M, tr_know v ls → tr_mo ls M → ∀ a, a < 16 → M a ≤ t + 1 → u 25 a = nI (M a)) → P (cd_X9_findMoments.drop 6, [some (.ref 22), some (.int (nI t)), l2], [], (am_sh, u, w), 0, 0) := by
    intro m
    induction m with
    | zero =>
      intro t u l2 ht hf hm
      ((repeat' first | refine hP _ ?_ | fail); try dsimp only)
      refine ⟨fun _ => ?_, fun c => absurd (nI_le (a := 16) (b := t) (by omega) (by omega)) c⟩
      ((repeat' first | refine hP _ ?_ | fail); try dsimp only)
      exact h u hf (fun ls M h1 h2 a ha => hm ls M h1 h2 a ha (by have := (h2 a ha).1.2; omega))
    | succ m ih =>
      intro t u l2 ht hf hm
      have inn : ∀ (m i : Nat) (u : am_V), i + m = 16 → (∀ k, k ≠ 25 → u k = v k) → (∀ ls M, tr_know v ls → tr_mo ls M → ∀ a, a < 16 → (M a ≤ t + 1 ∨ (M a ≤ t + 2 ∧ a < i)) → u 25 a = nI (M a)) → P (cd_X9_findMoments.drop 11, [some (.ref 22), some (.int (nI t)), some (.int (nI i))], [], (am_sh, u, w), 0, 0) := by
        intro m
        induction m with
        | zero =>
          intro i u hi hf hm
          ((repeat' first | refine hP _ ?_ | fail); try dsimp only)
          refine ⟨fun _ => ?_, fun c => absurd (nI_le (a := 16) (b := i) (by omega) (by omega)) c⟩
          ((iterate 2 refine hP _ ?_); try dsimp only)
          rw [nI_1]
          exact ih (t + 1) u _ (by omega) hf (fun ls M h1 h2 a ha q => hm ls M h1 h2 a ha (Or.inr ⟨q, by omega⟩))
        | succ m ih2 =>
          intro i u hi hf hm
          ((repeat' first | refine hP _ ?_ | fail); try dsimp only)
          refine ⟨fun c => absurd c (nI_ge (b := 16) (by omega) (by omega)), fun _ => ?_⟩
          ((repeat' first | refine hP _ ?_ | fail); try dsimp only)
          refine ⟨vp_in_nI (by omega) (by omega), ?_⟩
          ((repeat' first | refine hP _ ?_ | fail); try dsimp only)
          rw [nI_clamp (by omega)]
          refine m_behind ?_
          ((repeat' first | refine hP _ ?_ | fail); try dsimp only)
          refine ⟨vp_in_nI (by omega) (by omega), ?_⟩
          dsimp only
          rw [nI_clamp (by omega)]
          ((iterate 2 refine hP _ ?_); try dsimp only)
          rw [nI_1]
          refine ih2 (i + 1) _ (by omega) (fun k hk => by rw [am_up_ne _ _ _ hk, hf k hk]) (fun ls M h1 h2 a ha q => ?_)
          rw [am_up_eq]
          by_cases g : a = i
          · subst g
            rw [if_pos ⟨rfl, rfl⟩]
            have hMa : M a ≤ t + 2 := by omega
            have hs := (h1 a ha).2
            rw [← hf 24 (by decide)] at hs
            obtain ⟨y, e, hy, y1, y2⟩ := mbF_max hs (mo := u 25) (g := M) (fun b hb hS => ⟨hm ls M h1 h2 b hb (Or.inl (by have := (h2 a ha).2.1 b hb hS; omega)), by have := (h2 b hb).1.2; omega⟩) 16 (by omega)
            rw [e, nI_1]
            congr 1
            rcases (h2 a ha).2.2 with z | ⟨b, hb, z1, z2⟩
            · rcases y2 with z3 | ⟨b, hb, z3, z4⟩
              · omega
              · have z5 := (h2 a ha).2.1 b hb z3
                have := (h2 b hb).1.1
                omega
            · have z3 := y1 b hb z1
              rcases y2 with z4 | ⟨b', hb', z4, z5⟩
              · have := (h2 b hb).1.1
                omega
              · have := (h2 a ha).2.1 b' hb' z4
                omega
          · rw [if_neg (fun z => g z.2)]
            exact hm ls M h1 h2 a ha (by omega)
      ((repeat' first | refine hP _ ?_ | fail); try dsimp only)
      refine ⟨fun c => absurd c (nI_ge (b := 16) (by omega) (by omega)), fun _ => ?_⟩
      ((iterate 2 refine hP _ ?_); try dsimp only)
      exact inn 16 0 u rfl hf (fun ls M h1 h2 a ha q => hm ls M h1 h2 a ha (by omega))
  ((repeat' first | refine hP _ ?_ | fail); try dsimp only)
  refine m_fill25 (fun u hu hf => ?_)
  ((iterate 2 refine hP _ ?_); try dsimp only)
  refine key 16 0 u none rfl hf (fun ls M h1 h2 a ha q => ?_)
  rw [hu a ha, show M a = 1 by have := (h2 a ha).1.1; omega]
  rfl
theorem tk_s {ls : List tr_L} {i : Nat} {l : tr_L} (h : ls[i]? = some l) : ls.take (i + 1) = ls.take i ++ [l] := by
  rw [List.take_succ, h]
  rfl
/-- the lines as the class's reader has them -/
def tr_rd (v : am_V) (ls : List tr_L) : Prop := ∀ i x y e, ls[i]? = some (x, y, e) → x < 16 ∧ y < 16 ∧ v 27 i = nI x ∧ v 29 i = nI y ∧ (v 28 i = 61 ↔ e = true)
theorem tr_rd16 {ls : List tr_L} (h : tr_rd v ls) : tr_16 ls := fun x y e hm => by
  obtain ⟨i, hi⟩ := List.getElem?_of_mem hm
  have := h i x y e hi
  exact ⟨this.1, this.2.1⟩
theorem tr_eq_nil {a c : Nat} : tr_eq [] a c ↔ c = a := ⟨fun h => h (fun z => z = a) (fun x y q => absurd q (by simp)) rfl, fun h => by rw [h]; exact tr_eq_rf⟩
theorem tr_ah_nil {a c : Nat} : ¬ tr_ah [] c a := fun h => h (fun _ _ => False) (fun x y q => absurd q (by simp)) (fun x y z q => absurd q (by simp)) (fun _ _ _ q _ => q)
theorem tr_16_take {ls : List tr_L} (h : tr_16 ls) (i : Nat) : tr_16 (ls.take i) := fun x y e hm => h x y e (List.mem_of_mem_take hm)
set_option maxRecDepth 100000 in
set_option maxHeartbeats 4000000 in
theorem m_trBecome {ls : List tr_L} (hN : ls.length ≤ 24) (hr : tr_rd v ls) (h : ∀ v' : am_V, (∀ k, k ≠ 22 → k ≠ 23 → k ≠ 24 → k ≠ 25 → v' k = v k) → v' 22 3 = nI ls.length → tr_set (v' 22 4) (tr_nm ls) → tr_cls ls (v' 22 5) (v' 23) (v' 24) (v' 25) → Q none (am_sh, v', w)) : am_run K I am_m (d + 3) 88 [.ref 22, .ref 26, .int (nI ls.length)] (am_sh, v, w) 0 0 Q := by
  refine en_X9_become rfl ?_
  intro P hP
  have h16 := tr_rd16 hr
  -- the lines, one by one
  have lin : ∀ (m i : Nat) (u : am_V), i + m = ls.length → (∀ k, k ≠ 22 → k ≠ 23 → k ≠ 24 → k ≠ 25 → u k = v k) → u 22 3 = nI ls.length → tr_set (u 22 4) (tr_nm (ls.take i)) → ((u 22 5 = -1 ∧ ¬ tr_con (ls.take i) ∧ tr_know u (ls.take i)) ∨ (∃ k : Nat, k < i ∧ u 22 5 = nI k ∧ tr_con (ls.take (k + 1)) ∧ ¬ tr_con (ls.take k))) → P (cd_X9_become.drop 30, [some (.ref 22), some (.ref 26), some (.int (nI ls.length)), some (.int (nI i))], [], (am_sh, u, w), 0, 0) := by
    intro m
    induction m with
    | zero =>
      intro i u hi hf h3 h4 h5
      have hi : i = ls.length := by omega
      rw [hi, List.take_length] at h4
      ((repeat' first | refine hP _ ?_ | fail); try dsimp only)
      rw [h3]
      refine ⟨fun _ => ?_, fun c => absurd (nI_le (a := ls.length) (b := i) (by omega) (by omega)) c⟩
      ((repeat' first | refine hP _ ?_ | fail); try dsimp only)
      refine m_findMo (fun u2 f2 m2 => ?_)
      ((repeat' first | refine hP _ ?_ | fail); try dsimp only)
      refine h u2 (fun k k1 k2 k3 k4 => by rw [f2 k k4, hf k k1 k2 k3 k4]) (by rw [f2 22 (by decide)]; exact h3) (by rw [f2 22 (by decide)]; exact h4) ?_
      rw [f2 22 (by decide), f2 23 (by decide), f2 24 (by decide)]
      rcases h5 with ⟨a1, a2, a3⟩ | ⟨k, a0, a1, a2, a3⟩
      · rw [hi, List.take_length] at a2 a3
        obtain ⟨M, hM⟩ := tr_mo_ex a2
        exact Or.inl ⟨a1, a2, Or.inr ⟨a3, M, fun a ha => m2 ls M a3 hM a ha, hM⟩⟩
      · exact Or.inr ⟨k, by omega, a1, a2, a3⟩
    | succ m ih =>
      intro i u hi hf h3 h4 h5
      obtain ⟨⟨x, y, e⟩, hl⟩ : ∃ l, ls[i]? = some l := ⟨_, List.getElem?_eq_getElem (by omega)⟩
      obtain ⟨hx, hy, r27, r29, r28⟩ := hr i x y e hl
      have tk := tk_s hl
      have u27 : u 27 i = nI x := by rw [hf 27 (by decide) (by decide) (by decide) (by decide)]; exact r27
      have u29 : u 29 i = nI y := by rw [hf 29 (by decide) (by decide) (by decide) (by decide)]; exact r29
      ((repeat' first | refine hP _ ?_ | fail); try dsimp only)
      rw [h3]
      refine ⟨fun c => absurd c (nI_ge (by omega) (by omega)), fun _ => ?_⟩
      ((repeat' first | refine hP _ ?_ | fail); try dsimp only)
      refine ⟨fun c => absurd c (nI_ge (b := 24) (by omega) (by omega)), fun _ => ?_⟩
      ((repeat' first | refine hP _ ?_ | fail); try dsimp only)
      refine ⟨vp_in_nI (by omega) (by omega), ?_⟩
      ((repeat' first | refine hP _ ?_ | fail); try dsimp only)
      refine ⟨vp_in_nI (by omega) (by omega), ?_⟩
      dsimp only
      rw [nI_clamp (by omega), u27, u29]
      ((iterate 5 refine hP _ ?_); try dsimp only)
      generalize hu1 : am_up u 22 4 _ = u1
      have n1 : tr_set (u1 22 4) (tr_nm (ls.take (i + 1))) := by
        rw [← hu1, am_up_eq, if_pos ⟨rfl, rfl⟩]
        refine ts_congr (fun b _ => ?_) (ts_or h4 (ts_or (ts_bit hx) (ts_bit hy)))
        rw [tk]
        constructor
        · rintro (⟨p, q, t, g1, g2⟩ | g)
          · exact ⟨p, q, t, List.mem_append_left _ g1, g2⟩
          · exact ⟨x, y, e, List.mem_append_right _ (by simp), g⟩
        · rintro ⟨p, q, t, g1, g2⟩
          rcases List.mem_append.mp g1 with g | g
          · exact Or.inl ⟨p, q, t, g, g2⟩
          · have g : p = x ∧ q = y ∧ t = e := by simpa using g
            rw [g.1, g.2.1] at g2
            exact Or.inr g2
      have f1 : ∀ k, k ≠ 22 → u1 k = u k := fun k hk => by rw [← hu1, am_up_ne _ _ _ hk]
      have g1 : ∀ j, j ≠ 4 → u1 22 j = u 22 j := fun j hj => by rw [← hu1, am_up_eq, if_neg (fun q => hj q.2)]
      have fv : ∀ k, k ≠ 22 → k ≠ 23 → k ≠ 24 → k ≠ 25 → u1 k = v k := fun k k1 k2 k3 k4 => by rw [f1 k k1, hf k k1 k2 k3 k4]
      clear hu1
      ((repeat' first | refine hP _ ?_ | fail); try dsimp only)
      rw [g1 5 (by decide)]
      rcases h5 with ⟨a1, a2, a3⟩ | ⟨k, a0, a1, a2, a3⟩
      · rw [a1]
        refine ⟨fun c => absurd rfl c, fun _ => ?_⟩
        ((repeat' first | refine hP _ ?_ | fail); try dsimp only)
        refine ⟨vp_in_nI (by omega) (by omega), ?_⟩
        ((repeat' first | refine hP _ ?_ | fail); try dsimp only)
        refine ⟨vp_in_nI (by omega) (by omega), ?_⟩
        ((repeat' first | refine hP _ ?_ | fail); try dsimp only)
        refine ⟨vp_in_nI (by omega) (by omega), ?_⟩
        ((repeat' first | refine hP _ ?_ | fail); try dsimp only)
        rw [nI_clamp (by omega), f1 27 (by decide), f1 29 (by decide), u27, u29]
        have k1 : tr_know u1 (ls.take i) := fun a ha => by rw [f1 23 (by decide), f1 24 (by decide)]; exact a3 a ha
        refine m_agrees (ls := ls.take i) (x := x) (y := y) (e := e) (by rw [← tk]; exact tr_16_take h16 _) k1 (by rw [f1 28 (by decide), hf 28 (by decide) (by decide) (by decide) (by decide)]; exact r28) (fun cn u2 f2 => ?_) (fun cn u2 f2 k2 => ?_)
        · rw [← tk] at cn
          ((repeat' first | refine hP _ ?_ | fail); try dsimp only)
          refine ⟨fun c => absurd rfl c, fun _ => ?_⟩
          ((iterate 5 refine hP _ ?_); try dsimp only)
          rw [nI_1]
          refine ih (i + 1) _ (by omega) (fun k k1 k2 k3 k4 => by rw [am_up_ne _ _ _ k1, f2 k k2 k3, fv k k1 k2 k3 k4]) (by rw [am_up_eq, if_neg (by decide), f2 22 (by decide) (by decide), g1 3 (by decide)]; exact h3) (by rw [am_up_eq, if_neg (by decide), f2 22 (by decide) (by decide)]; exact n1) (Or.inr ⟨i, by omega, by rw [am_up_eq, if_pos ⟨rfl, rfl⟩], cn, a2⟩)
        · rw [← tk] at cn k2
          ((repeat' first | refine hP _ ?_ | fail); try dsimp only)
          refine ⟨fun _ => ?_, fun c => absurd c (by decide)⟩
          ((iterate 2 refine hP _ ?_); try dsimp only)
          rw [nI_1]
          exact ih (i + 1) u2 (by omega) (fun k k1 k2 k3 k4 => by rw [f2 k k2 k3, fv k k1 k2 k3 k4]) (by rw [f2 22 (by decide) (by decide), g1 3 (by decide)]; exact h3) (by rw [f2 22 (by decide) (by decide)]; exact n1) (Or.inl ⟨by rw [f2 22 (by decide) (by decide), g1 5 (by decide)]; exact a1, cn, k2⟩)
      · rw [a1]
        refine ⟨fun _ => ?_, fun c => absurd c (by
          intro q
          have := congrArg Int32.toInt q
          rw [nI_toInt (by omega), show (-1 : Int32).toInt = -1 from rfl] at this
          omega)⟩
        ((iterate 2 refine hP _ ?_); try dsimp only)
        rw [nI_1]
        exact ih (i + 1) u1 (by omega) fv (by rw [g1 3 (by decide)]; exact h3) n1 (Or.inr ⟨k, by omega, by rw [g1 5 (by decide)]; exact a1, a2, a3⟩)
  -- the rows made new
  have ini : ∀ (m i : Nat) (u : am_V), i + m = 16 → (∀ k, k ≠ 22 → k ≠ 23 → k ≠ 24 → k ≠ 25 → u k = v k) → u 22 3 = nI ls.length → u 22 4 = 0 → u 22 5 = -1 → (∀ a, a < i → tr_set (u 23 a) (tr_eq [] a) ∧ tr_set (u 24 a) (fun c => tr_ah [] c a)) → P (cd_X9_become.drop 11, [some (.ref 22), some (.ref 26), some (.int (nI ls.length)), some (.int (nI i))], [], (am_sh, u, w), 0, 0) := by
    intro m
    induction m with
    | zero =>
      intro i u hi hf h3 h4 h5 hk
      ((repeat' first | refine hP _ ?_ | fail); try dsimp only)
      refine ⟨fun _ => ?_, fun c => absurd (nI_le (a := 16) (b := i) (by omega) (by omega)) c⟩
      ((iterate 2 refine hP _ ?_); try dsimp only)
      refine lin ls.length 0 u (by omega) hf h3 ?_ (Or.inl ⟨h5, ?_, ?_⟩)
      · rw [h4]
        exact ts_congr (fun b _ => ⟨fun q => q.elim, fun ⟨p, q, t, g, _⟩ => absurd g (by simp)⟩) ts_0
      · rintro ⟨a, ha⟩
        exact tr_ah_nil ha
      · intro a ha
        exact hk a (by omega)
    | succ m ih =>
      intro i u hi hf h3 h4 h5 hk
      ((repeat' first | refine hP _ ?_ | fail); try dsimp only)
      refine ⟨fun c => absurd c (nI_ge (b := 16) (by omega) (by omega)), fun _ => ?_⟩
      ((repeat' first | refine hP _ ?_ | fail); try dsimp only)
      refine ⟨vp_in_nI (by omega) (by omega), ?_⟩
      ((repeat' first | refine hP _ ?_ | fail); try dsimp only)
      refine ⟨vp_in_nI (by omega) (by omega), ?_⟩
      dsimp only
      rw [nI_clamp (by omega)]
      ((iterate 2 refine hP _ ?_); try dsimp only)
      rw [nI_1]
      refine ih (i + 1) _ (by omega) (fun k k1 k2 k3 k4 => by rw [am_up_ne _ _ _ k3, am_up_ne _ _ _ k2, hf k k1 k2 k3 k4]) (by rw [am_up_ne _ _ _ (by decide), am_up_ne _ _ _ (by decide)]; exact h3) (by rw [am_up_ne _ _ _ (by decide), am_up_ne _ _ _ (by decide)]; exact h4) (by rw [am_up_ne _ _ _ (by decide), am_up_ne _ _ _ (by decide)]; exact h5) (fun a ha => ?_)
      rw [am_up_ne _ _ _ (show (23 : Nat) ≠ 24 by decide), am_up_eq, am_up_eq]
      by_cases q : a = i
      · subst q
        rw [if_pos ⟨rfl, rfl⟩, if_pos ⟨rfl, rfl⟩]
        exact ⟨ts_congr (fun c _ => tr_eq_nil.symm) (ts_bit (by omega)), ts_congr (fun c _ => ⟨fun t => t.elim, fun t => tr_ah_nil t⟩) ts_0⟩
      · rw [if_neg (fun z => q z.2), if_neg (fun z => q z.2), am_up_ne _ _ _ (show (24 : Nat) ≠ 23 by decide)]
        exact hk a (by omega)
  ((iterate 11 refine hP _ ?_); try dsimp only)
  refine ini 16 0 _ rfl (fun k k1 _ _ _ => by rw [am_up_ne _ _ _ k1, am_up_ne _ _ _ k1, am_up_ne _ _ _ k1]) (by simp [am_up_eq]) (by simp [am_up_eq]) (by simp [am_up_eq]) (fun a ha => absurd ha (by omega))
end M81
