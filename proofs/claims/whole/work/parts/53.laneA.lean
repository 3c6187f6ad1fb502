/-! ===== lane: numbers ===== -/
def lnD (s i : Nat) : Nat := s / 3 ^ i % 3
theorem lnD_lt (s i : Nat) : lnD s i < 3 := Nat.mod_lt _ (by decide)
def lnS (φ : Nat → Nat → Nat) (f : Nat → Nat) : Nat → Nat
  | 0 => 0
  | i + 1 => lnS φ f i + φ i (f i)
def lnU (f : Nat → Nat) (k a : Nat) : Nat → Nat := fun i => if i = k then a else f i
theorem lnS_ge {φ : Nat → Nat → Nat} {f : Nat → Nat} {k a : Nat} : ∀ n, n ≤ k → lnS φ (lnU f k a) n = lnS φ f n
  | 0, _ => rfl
  | n + 1, h => by
    unfold lnS
    rw [lnS_ge n (by omega)]
    unfold lnU
    rw [if_neg (by omega)]
theorem lnS_up {φ : Nat → Nat → Nat} {f : Nat → Nat} {k a : Nat} : ∀ n, k < n → lnS φ (lnU f k a) n + φ k (f k) = lnS φ f n + φ k a
  | 0, h => absurd h (by omega)
  | n + 1, h => by
    show lnS φ (lnU f k a) n + φ n (lnU f k a n) + φ k (f k) = lnS φ f n + φ n (f n) + φ k a
    by_cases q : k = n
    · subst q
      rw [lnS_ge k (Nat.le_refl _)]
      unfold lnU
      rw [if_pos rfl]
      omega
    · have := lnS_up (φ := φ) (f := f) (a := a) n (show k < n by omega)
      have e : lnU f k a n = f n := by unfold lnU; rw [if_neg (by omega)]
      rw [e]
      omega
theorem lnS_congr {φ : Nat → Nat → Nat} {f g : Nat → Nat} : ∀ n, (∀ i, i < n → f i = g i) → lnS φ f n = lnS φ g n
  | 0, _ => rfl
  | n + 1, h => by
    unfold lnS
    rw [lnS_congr n (fun i hi => h i (by omega)), h n (by omega)]
def lnPk (i x : Nat) : Nat := x * 3 ^ i
def lnCn (y : Nat) (_ x : Nat) : Nat := if x = y then 1 else 0
theorem lnP_lt {f : Nat → Nat} : ∀ n, (∀ i, i < n → f i < 3) → lnS lnPk f n < 3 ^ n
  | 0, _ => Nat.zero_lt_one
  | n + 1, h => by
    have ih := lnP_lt n (fun i hi => h i (by omega))
    have h2 : f n * 3 ^ n ≤ 2 * 3 ^ n := Nat.mul_le_mul_right _ (by have := h n (by omega); omega)
    show lnS lnPk f n + f n * 3 ^ n < 3 ^ (n + 1)
    rw [Nat.pow_succ]
    omega
theorem lnD_P {f : Nat → Nat} : ∀ n, (∀ i, i < n → f i < 3) → ∀ i, i < n → lnD (lnS lnPk f n) i = f i
  | 0, _, i, hi => absurd hi (by omega)
  | n + 1, h, i, hi => by
    have hl := lnP_lt n (fun i hi => h i (by omega))
    show (lnS lnPk f n + f n * 3 ^ n) / 3 ^ i % 3 = f i
    by_cases q : i = n
    · subst q
      rw [Nat.add_mul_div_right _ _ (Nat.pow_pos (by decide)), Nat.div_eq_of_lt hl, Nat.zero_add, Nat.mod_eq_of_lt (h i (by omega))]
    · have ih := lnD_P n (fun i hi => h i (by omega)) i (by omega)
      have e : f n * 3 ^ n = (f n * 3 ^ (n - i - 1) * 3) * 3 ^ i := by
        have : 3 ^ n = 3 ^ (n - i - 1) * 3 * 3 ^ i := by
          rw [← Nat.pow_succ, ← Nat.pow_add]
          congr 1
          omega
        rw [this, Nat.mul_assoc, Nat.mul_assoc, Nat.mul_assoc]
      rw [e, Nat.add_mul_div_right _ _ (Nat.pow_pos (by decide)), Nat.add_mul_mod_self_right]
      exact ih
theorem lnP_D (s : Nat) : ∀ n, lnS lnPk (lnD s) n = s % 3 ^ n
  | 0 => by rw [Nat.pow_zero, Nat.mod_one]; rfl
  | n + 1 => by
    show lnS lnPk (lnD s) n + lnD s n * 3 ^ n = _
    rw [lnP_D s n, Nat.pow_succ, Nat.mod_mul, Nat.mul_comm (lnD s n)]
    rfl
/-- where the mule of a place goes -/
def lnL (n : Nat) (f : Nat → Nat) (k : Nat) : Option Nat :=
  if f k = 0 then none
  else if f k = 1 then (if k + 1 < n ∧ f (k + 1) = 0 then some (k + 1) else if k + 2 < n ∧ f (k + 1) = 2 ∧ f (k + 2) = 0 then some (k + 2) else none)
  else (if 1 ≤ k ∧ f (k - 1) = 0 then some (k - 1) else if 2 ≤ k ∧ f (k - 1) = 1 ∧ f (k - 2) = 0 then some (k - 2) else none)
theorem lnL_ok {n k to : Nat} {f : Nat → Nat} (hk : k < n) (h : lnL n f k = some to) : to < n ∧ to ≠ k ∧ f to = 0 ∧ f k ≠ 0 := by
  unfold lnL at h
  repeat' split at h
  all_goals (first | cases h | skip)
  all_goals (rename_i q1 q2 q3)
  all_goals (refine ⟨by omega, by omega, ?_, by omega⟩)
  all_goals (first | exact q3.2 | exact q3.2.2)
def lnM (s k to : Nat) : Nat := s + lnD s k * 3 ^ to - lnD s k * 3 ^ k
def lnG (f : Nat → Nat) (k to : Nat) : Nat → Nat := lnU (lnU f k 0) to (f k)
theorem lnM_ok {n s k to : Nat} (hs : s < 3 ^ n) (hk : k < n) (h : lnL n (lnD s) k = some to) : lnM s k to = lnS lnPk (lnG (lnD s) k to) n ∧ lnM s k to + lnD s k * 3 ^ k = s + lnD s k * 3 ^ to ∧ lnM s k to < 3 ^ n ∧ (∀ i, i < n → lnD (lnM s k to) i = lnG (lnD s) k to i) := by
  obtain ⟨h1, h2, h3, h4⟩ := lnL_ok hk h
  have e1 := lnS_up (φ := lnPk) (f := lnD s) (a := 0) n hk
  have e2 := lnS_up (φ := lnPk) (f := lnU (lnD s) k 0) (a := lnD s k) n h1
  have e3 : lnU (lnD s) k 0 to = 0 := by
    unfold lnU
    rw [if_neg h2]
    exact h3
  rw [e3] at e2
  rw [lnP_D, Nat.mod_eq_of_lt hs] at e1
  unfold lnPk at e1 e2
  simp only [Nat.zero_mul, Nat.add_zero] at e1 e2
  have e4 : lnM s k to = lnS lnPk (lnG (lnD s) k to) n := by
    unfold lnM lnG lnPk
    omega
  have hd : ∀ i, i < n → lnG (lnD s) k to i < 3 := by
    intro i _
    unfold lnG lnU
    have := lnD_lt s i
    have := lnD_lt s k
    (repeat' split) <;> omega
  refine ⟨e4, ?_, ?_, ?_⟩
  · rw [e4]
    unfold lnG lnPk
    omega
  · rw [e4]
    exact lnP_lt n hd
  · rw [e4]
    exact lnD_P n hd
theorem lnM_cn {n s k to y : Nat} (hs : s < 3 ^ n) (hk : k < n) (h : lnL n (lnD s) k = some to) : lnS (lnCn y) (lnD (lnM s k to)) n = lnS (lnCn y) (lnD s) n := by
  obtain ⟨_, _, _, e⟩ := lnM_ok hs hk h
  obtain ⟨h1, h2, h3, h4⟩ := lnL_ok hk h
  rw [lnS_congr n e]
  have e1 := lnS_up (φ := lnCn y) (f := lnD s) (a := 0) n hk
  have e2 := lnS_up (φ := lnCn y) (f := lnU (lnD s) k 0) (a := lnD s k) n h1
  have e3 : lnU (lnD s) k 0 to = 0 := by
    unfold lnU
    rw [if_neg h2]
    exact h3
  rw [e3] at e2
  unfold lnG
  have e5 : lnCn y to 0 = lnCn y k 0 := rfl
  have e6 : lnCn y to (lnD s k) = lnCn y k (lnD s k) := rfl
  omega
/-- in how many ways so many of each kind stand -/
def lnN : Nat → Nat → Nat → Nat
  | 0, r, l => if r = 0 ∧ l = 0 then 1 else 0
  | n + 1, r, l => lnN n r l + (if r = 0 then 0 else lnN n (r - 1) l) + (if l = 0 then 0 else lnN n r (l - 1))
theorem lnPart {L : List Nat} {g : Nat → Nat} (h : ∀ s, s ∈ L → g s < 3) : L.length = (L.filter (fun s => Nat.beq (g s) 0)).length + (L.filter (fun s => Nat.beq (g s) 1)).length + (L.filter (fun s => Nat.beq (g s) 2)).length := by
  induction L with
  | nil => rfl
  | cons a t ih =>
    have e := ih (fun s hs => h s (List.mem_cons_of_mem _ hs))
    have h3 := h a (List.mem_cons_self ..)
    simp only [List.filter_cons, List.length_cons]
    have : g a = 0 ∨ g a = 1 ∨ g a = 2 := by omega
    rcases this with q | q | q <;> rw [q] <;> simp <;> omega
theorem lnN_le : ∀ (n r l : Nat) (L : List Nat), L.Pairwise (fun a b => a ≠ b) → (∀ s, s ∈ L → s < 3 ^ n ∧ lnS (lnCn 1) (lnD s) n = r ∧ lnS (lnCn 2) (lnD s) n = l) → L.length ≤ lnN n r l := by
  intro n
  induction n with
  | zero =>
    intro r l L hp h
    cases L with
    | nil => exact Nat.zero_le _
    | cons a t =>
      obtain ⟨h1, h2, h3⟩ := h a (List.mem_cons_self ..)
      have h2' : r = 0 := h2.symm
      have h3' : l = 0 := h3.symm
      subst h2' h3'
      cases t with
      | nil => exact Nat.le_refl _
      | cons b t =>
        have h4 := (h b (List.mem_cons_of_mem _ (List.mem_cons_self ..))).1
        have := (List.pairwise_cons.mp hp).1 b (List.mem_cons_self ..)
        rw [Nat.pow_zero] at h1 h4
        omega
  | succ n ih =>
    intro r l L hp h
    have hg : ∀ s, s ∈ L → s / 3 ^ n < 3 := fun s hs => by
      have := (h s hs).1
      rw [Nat.pow_succ, Nat.mul_comm] at this
      exact Nat.div_lt_of_lt_mul (by rw [Nat.mul_comm]; exact this)
    have part : ∀ (x r' l' : Nat), (∀ s, s ∈ L → s / 3 ^ n = x → lnS (lnCn 1) (lnD s) n = r' ∧ lnS (lnCn 2) (lnD s) n = l') → (L.filter (fun s => Nat.beq (s / 3 ^ n) x)).length ≤ lnN n r' l' := by
      intro x r' l' hx
      have e := ih r' l' ((L.filter (fun s => Nat.beq (s / 3 ^ n) x)).map (fun s => s % 3 ^ n)) (by
        rw [List.pairwise_map]
        refine List.Pairwise.imp_of_mem ?_ (hp.filter _)
        intro a b ha hb hab hc
        have ha2 := Nat.eq_of_beq_eq_true (List.mem_filter.mp ha).2
        have hb2 := Nat.eq_of_beq_eq_true (List.mem_filter.mp hb).2
        apply hab
        rw [← Nat.div_add_mod a (3 ^ n), ← Nat.div_add_mod b (3 ^ n), ha2, hb2, hc]) (by
        intro s hs
        obtain ⟨a, ha, rfl⟩ := List.mem_map.mp hs
        obtain ⟨ha1, ha2⟩ := List.mem_filter.mp ha
        have ha2 := Nat.eq_of_beq_eq_true ha2
        have hcg : ∀ i, i < n → lnD (a % 3 ^ n) i = lnD a i := by
          intro i hi
          have := lnD_P (f := lnD a) n (fun i _ => lnD_lt a i) i hi
          rw [lnP_D] at this
          exact this
        refine ⟨Nat.mod_lt _ (Nat.pow_pos (by decide)), ?_, ?_⟩
        · rw [lnS_congr n hcg]
          exact (hx a ha1 ha2).1
        · rw [lnS_congr n hcg]
          exact (hx a ha1 ha2).2)
      rw [List.length_map] at e
      exact e
    have htop : ∀ s, s ∈ L → lnD s n = s / 3 ^ n := fun s hs => Nat.mod_eq_of_lt (hg s hs)
    have hsum : ∀ s, s ∈ L → lnS (lnCn 1) (lnD s) n + (if s / 3 ^ n = 1 then 1 else 0) = r ∧ lnS (lnCn 2) (lnD s) n + (if s / 3 ^ n = 2 then 1 else 0) = l := fun s hs => by
      have := (h s hs).2
      unfold lnS at this
      rw [htop s hs] at this
      exact this
    rw [lnPart hg]
    have p0 := part 0 r l (fun s hs hx => by
      have := hsum s hs
      rw [hx] at this
      simpa using this)
    have p1 : (L.filter (fun s => Nat.beq (s / 3 ^ n) 1)).length ≤ (if r = 0 then 0 else lnN n (r - 1) l) := by
      by_cases q : r = 0
      · have : (L.filter (fun s => Nat.beq (s / 3 ^ n) 1)) = [] := by
          rw [List.filter_eq_nil_iff]
          intro s hs hx
          have hx := Nat.eq_of_beq_eq_true hx
          have := (hsum s hs).1
          rw [if_pos hx] at this
          omega
        rw [this]
        exact Nat.zero_le _
      · rw [if_neg q]
        refine part 1 (r - 1) l (fun s hs hx => ?_)
        have := hsum s hs
        rw [hx] at this
        simp at this
        omega
    have p2 : (L.filter (fun s => Nat.beq (s / 3 ^ n) 2)).length ≤ (if l = 0 then 0 else lnN n r (l - 1)) := by
      by_cases q : l = 0
      · have : (L.filter (fun s => Nat.beq (s / 3 ^ n) 2)) = [] := by
          rw [List.filter_eq_nil_iff]
          intro s hs hx
          have hx := Nat.eq_of_beq_eq_true hx
          have := (hsum s hs).2
          rw [if_pos hx] at this
          omega
        rw [this]
        exact Nat.zero_le _
      · rw [if_neg q]
        refine part 2 r (l - 1) (fun s hs hx => ?_)
        have := hsum s hs
        rw [hx] at this
        simp at this
        omega
    unfold lnN
    omega
theorem lnN_max : cuAll (fun n => cuAll (fun r => cuAll (fun l => Nat.ble (lnN n r l) 1680) 10) 10) 10 = true := by decide +kernel
theorem lnCn_le {y : Nat} {f : Nat → Nat} : ∀ n, lnS (lnCn y) f n ≤ n
  | 0 => Nat.le_refl _
  | n + 1 => by
    have := lnCn_le (y := y) (f := f) n
    unfold lnS lnCn
    unfold lnCn at this
    split <;> omega
theorem lnN_1680 {n r l : Nat} (hn : n ≤ 9) (hr : r ≤ 9) (hl : l ≤ 9) : lnN n r l ≤ 1680 := Nat.le_of_ble_eq_true (cuAll_at (cuAll_at (cuAll_at lnN_max n (by omega)) r (by omega)) l (by omega))
