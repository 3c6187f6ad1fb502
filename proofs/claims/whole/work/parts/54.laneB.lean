/-! ===== lane: the search ===== -/
def bfHas (q : List (Nat × Nat × Nat)) (s : Nat) : Bool := q.any (fun x => Nat.beq x.1 s)
theorem bfHas_t {q : List (Nat × Nat × Nat)} {s : Nat} : bfHas q s = true ↔ ∃ x, x ∈ q ∧ x.1 = s := by
  unfold bfHas
  rw [List.any_eq_true]
  constructor
  · rintro ⟨x, h1, h2⟩
    exact ⟨x, h1, Nat.eq_of_beq_eq_true h2⟩
  · rintro ⟨x, h1, h2⟩
    exact ⟨x, h1, by rw [h2]; exact am_beq s⟩
def bfC (fi j : Nat) : Nat := if fi = 15 then j else fi
def bfAdd (q : List (Nat × Nat × Nat)) (x : Nat × Nat × Nat) : List (Nat × Nat × Nat) := if bfHas q x.1 = true then q else q ++ [x]
def bfSt (n s lv fi j : Nat) (q : List (Nat × Nat × Nat)) : List (Nat × Nat × Nat) := match lnL n (lnD s) j with
  | none => q
  | some to => bfAdd q (lnM s j to, lv + 1, bfC fi j)
def bfEx (n s lv fi : Nat) : Nat → Nat → List (Nat × Nat × Nat) → List (Nat × Nat × Nat)
  | 0, _, q => q
  | k + 1, j, q => bfEx n s lv fi k (j + 1) (bfSt n s lv fi j q)
def lnT (f : Nat → Nat) : Nat → Nat → Bool → Bool
  | 0, _, _ => true
  | k + 1, i, r => match (r || Nat.beq (f i) 1), Nat.beq (f i) 2 with
    | true, true => false
    | r', _ => lnT f k (i + 1) r'
def bfRun (n : Nat) : Nat → Nat → List (Nat × Nat × Nat) → Option (Nat × Nat)
  | 0, _, _ => none
  | k + 1, i, q => match q[i]? with
    | none => none
    | some (s, lv, fi) => if lnT (lnD s) n 0 false = true then some (lv, fi) else bfRun n k (i + 1) (bfEx n s lv fi n 0 q)
def bfOI (q : List (Nat × Nat × Nat)) (L c : Nat) : Prop := ∀ x, x ∈ q → x.2.1 ≤ L ∨ (x.2.1 = L + 1 ∧ x.2.2 ≤ c)
def BI (n s0 : Nat) (q : List (Nat × Nat × Nat)) : Prop := (∃ rest, q = (s0, 0, 15) :: rest ∧ ∀ x, x ∈ rest → 1 ≤ x.2.1 ∧ x.2.2 < n) ∧ q.Pairwise (fun a b => a.1 ≠ b.1) ∧ (∀ x, x ∈ q → x.1 < 3 ^ n ∧ lnS (lnCn 1) (lnD x.1) n = lnS (lnCn 1) (lnD s0) n ∧ lnS (lnCn 2) (lnD x.1) n = lnS (lnCn 2) (lnD s0) n) ∧ q.Pairwise (fun a b => a.2.1 < b.2.1 ∨ (a.2.1 = b.2.1 ∧ a.2.2 ≤ b.2.2)) ∧ ∀ x, x ∈ q → x.2.1 ≤ q.length
theorem BI.rt {n s0 : Nat} {q : List (Nat × Nat × Nat)} (h : BI n s0 q) : ∃ rest, q = (s0, 0, 15) :: rest ∧ ∀ x, x ∈ rest → 1 ≤ x.2.1 ∧ x.2.2 < n := h.1
theorem BI.ne {n s0 : Nat} {q : List (Nat × Nat × Nat)} (h : BI n s0 q) : q.Pairwise (fun a b => a.1 ≠ b.1) := h.2.1
theorem BI.cn {n s0 : Nat} {q : List (Nat × Nat × Nat)} (h : BI n s0 q) : ∀ x, x ∈ q → x.1 < 3 ^ n ∧ lnS (lnCn 1) (lnD x.1) n = lnS (lnCn 1) (lnD s0) n ∧ lnS (lnCn 2) (lnD x.1) n = lnS (lnCn 2) (lnD s0) n := h.2.2.1
theorem BI.so {n s0 : Nat} {q : List (Nat × Nat × Nat)} (h : BI n s0 q) : q.Pairwise (fun a b => a.2.1 < b.2.1 ∨ (a.2.1 = b.2.1 ∧ a.2.2 ≤ b.2.2)) := h.2.2.2.1
theorem BI.lv {n s0 : Nat} {q : List (Nat × Nat × Nat)} (h : BI n s0 q) : ∀ x, x ∈ q → x.2.1 ≤ q.length := h.2.2.2.2
theorem BI.len {n s0 : Nat} {q : List (Nat × Nat × Nat)} (hn : n ≤ 9) (h : BI n s0 q) : q.length ≤ 1680 := by
  have e := lnN_le n (lnS (lnCn 1) (lnD s0) n) (lnS (lnCn 2) (lnD s0) n) (q.map (fun x => x.1)) (by
    rw [List.pairwise_map]
    exact h.ne) (by
    intro s hs
    obtain ⟨x, hx, rfl⟩ := List.mem_map.mp hs
    exact h.cn x hx)
  rw [List.length_map] at e
  have a := lnCn_le (y := 1) (f := lnD s0) n
  have b := lnCn_le (y := 2) (f := lnD s0) n
  exact Nat.le_trans e (lnN_1680 hn (by omega) (by omega))
theorem BI.fi {n s0 s L fi : Nat} {q : List (Nat × Nat × Nat)} (h : BI n s0 q) (hx : (s, L, fi) ∈ q) : (L = 0 ∧ fi = 15) ∨ (1 ≤ L ∧ fi < n) := by
  obtain ⟨rest, e, h2⟩ := h.rt
  rw [e] at hx
  rcases List.mem_cons.mp hx with q | q
  · cases q
    exact Or.inl ⟨rfl, rfl⟩
  · exact Or.inr (h2 _ q)
theorem BI.step {n s0 s L fi j : Nat} {q : List (Nat × Nat × Nat)} (hn : n ≤ 9) (h : BI n s0 q) (hx : (s, L, fi) ∈ q) (hj : j < n) (ho : bfOI q L (bfC fi j)) : BI n s0 (bfSt n s L fi j q) ∧ bfOI (bfSt n s L fi j q) L (bfC fi (j + 1)) ∧ (∀ (i : Nat) (x : Nat × Nat × Nat), q[i]? = some x → (bfSt n s L fi j q)[i]? = some x) ∧ q.length ≤ (bfSt n s L fi j q).length := by
  have hmono : bfC fi j ≤ bfC fi (j + 1) := by
    unfold bfC
    split <;> omega
  have ho2 : bfOI q L (bfC fi (j + 1)) := fun x hx => (ho x hx).imp id (fun z => ⟨z.1, by omega⟩)
  unfold bfSt
  cases hl : lnL n (lnD s) j with
  | none => exact ⟨h, ho2, fun i x e => e, Nat.le_refl _⟩
  | some to =>
    dsimp only
    unfold bfAdd
    by_cases hh : bfHas q (lnM s j to) = true
    · rw [if_pos hh]
      exact ⟨h, ho2, fun i x e => e, Nat.le_refl _⟩
    · rw [if_neg hh]
      obtain ⟨c1, c2, c3⟩ := h.cn _ hx
      obtain ⟨m1, m2, m3, m4⟩ := lnM_ok c1 hj hl
      have hc : bfC fi j < n := by
        unfold bfC
        rcases h.fi hx with ⟨_, e⟩ | ⟨_, e⟩
        · rw [if_pos e]
          exact hj
        · split <;> omega
      have hL := h.lv _ hx
      obtain ⟨rest, e1, e2⟩ := h.rt
      refine ⟨⟨⟨rest ++ [(lnM s j to, L + 1, bfC fi j)], by rw [e1]; rfl, fun x hx => ?_⟩, ?_, ?_, ?_, ?_⟩, ?_, ?_, ?_⟩
      · rcases List.mem_append.mp hx with y | y
        · exact e2 x y
        · rw [List.mem_singleton.mp y]
          exact ⟨by show 1 ≤ L + 1; omega, hc⟩
      · rw [List.pairwise_append]
        refine ⟨h.ne, List.pairwise_singleton _ _, fun a ha b hb => ?_⟩
        rw [List.mem_singleton.mp hb]
        intro y
        exact hh (bfHas_t.mpr ⟨a, ha, y⟩)
      · intro x hx2
        rcases List.mem_append.mp hx2 with y | y
        · exact h.cn x y
        · rw [List.mem_singleton.mp y]
          refine ⟨m3, ?_, ?_⟩
          · rw [lnM_cn c1 hj hl]
            exact c2
          · rw [lnM_cn c1 hj hl]
            exact c3
      · rw [List.pairwise_append]
        refine ⟨h.so, List.pairwise_singleton _ _, fun a ha b hb => ?_⟩
        rw [List.mem_singleton.mp hb]
        rcases ho a ha with y | y
        · exact Or.inl (by show a.2.1 < L + 1; omega)
        · exact Or.inr y
      · intro x hx2
        rw [List.length_append, List.length_singleton]
        rcases List.mem_append.mp hx2 with y | y
        · have := h.lv x y
          omega
        · rw [List.mem_singleton.mp y]
          show L + 1 ≤ _
          have : L ≤ q.length := hL
          omega
      · intro x hx2
        rcases List.mem_append.mp hx2 with y | y
        · exact ho2 x y
        · rw [List.mem_singleton.mp y]
          exact Or.inr ⟨rfl, hmono⟩
      · intro i x e
        rw [List.getElem?_append_left (by
          rcases Nat.lt_or_ge i q.length with y | y
          · exact y
          · rw [List.getElem?_eq_none y] at e
            cases e)]
        exact e
      · rw [List.length_append]
        omega
theorem BI.next {n s0 s L fi s' L' fi' i : Nat} {q : List (Nat × Nat × Nat)} (hn : n ≤ 9) (h : BI n s0 q) (hi : q[i]? = some (s, L, fi)) (hi' : q[i + 1]? = some (s', L', fi')) (ho : bfOI q L (bfC fi n)) : bfOI q L' (bfC fi' 0) ∧ (L < L' ∨ (L = L' ∧ fi ≤ fi')) ∧ 1 ≤ L' := by
  obtain ⟨rest, e1, e2⟩ := h.rt
  have hm : (s', L', fi') ∈ rest := by
    rw [e1, List.getElem?_cons_succ] at hi'
    exact List.mem_of_getElem? hi'
  obtain ⟨l1, l2⟩ := e2 _ hm
  have hso : L < L' ∨ (L = L' ∧ fi ≤ fi') := by
    have := List.pairwise_iff_getElem.mp h.so i (i + 1) (by
      rcases Nat.lt_or_ge i q.length with y | y
      · exact y
      · rw [List.getElem?_eq_none y] at hi
        cases hi) (by
      rcases Nat.lt_or_ge (i + 1) q.length with y | y
      · exact y
      · rw [List.getElem?_eq_none y] at hi'
        cases hi') (by omega)
    obtain ⟨_, g1⟩ := List.getElem?_eq_some_iff.mp hi
    obtain ⟨_, g2⟩ := List.getElem?_eq_some_iff.mp hi'
    rw [g1, g2] at this
    exact this
  refine ⟨?_, hso, l1⟩
  have hb : bfC fi' 0 = fi' := by
    unfold bfC
    rw [if_neg (by have : fi' < n := l2; omega)]
  rw [hb]
  have hx' := ho (s', L', fi') (List.mem_of_getElem? hi')
  intro x hx
  rcases hso with z | ⟨z1, z2⟩
  · have hL' : L' = L + 1 := by
      rcases hx' with y | y
      · have : L' ≤ L := y
        omega
      · exact y.1
    rcases ho x hx with y | y
    · exact Or.inl (by omega)
    · exact Or.inl (by omega)
  · have hfi : bfC fi n = fi := by
      unfold bfC
      rcases h.fi (List.mem_of_getElem? hi) with ⟨a, _⟩ | ⟨_, a⟩
      · have : 1 ≤ L' := l1
        omega
      · rw [if_neg (by omega)]
    rw [hfi] at ho
    rcases ho x hx with y | y
    · exact Or.inl (by omega)
    · exact Or.inr ⟨by omega, by omega⟩
theorem BI.start {n s0 : Nat} (h : s0 < 3 ^ n) : BI n s0 [(s0, 0, 15)] ∧ bfOI [(s0, 0, 15)] 0 (bfC 15 0) := by
  refine ⟨⟨⟨[], rfl, fun x hx => by cases hx⟩, List.pairwise_singleton _ _, fun x hx => ?_, List.pairwise_singleton _ _, fun x hx => ?_⟩, fun x hx => ?_⟩
  · rw [List.mem_singleton.mp hx]
    exact ⟨h, rfl, rfl⟩
  · rw [List.mem_singleton.mp hx]
    exact Nat.zero_le _
  · rw [List.mem_singleton.mp hx]
    exact Or.inl (Nat.le_refl _)
