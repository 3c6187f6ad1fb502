/-! ===== cushions: numbers ===== -/
theorem andNN {a b : Nat} (ha : a < 2 ^ 31) (hb : b < 2 ^ 31) : nI a &&& nI b = nI (a &&& b) := by
  apply Int32.toBitVec_inj.mp
  apply BitVec.eq_of_toNat_eq
  have h1 : (a &&& b) < 2 ^ 32 := Nat.lt_of_le_of_lt Nat.and_le_left (by omega)
  rw [Int32.toBitVec_and, BitVec.toNat_and, pk_tn (by omega), pk_tn (by omega), pk_tn h1]
/-- how high the cushions of these bits are -/
def cuH (t : Nat → Nat) (s : Nat) : Nat → Nat
  | 0 => 0
  | i + 1 => cuH t s i + s / 2 ^ i % 2 * t i
theorem cuH_le {t : Nat → Nat} (ht : ∀ j, t j < 256) (s : Nat) : ∀ k, cuH t s k ≤ 255 * k
  | 0 => Nat.le_refl _
  | k + 1 => by
    have := cuH_le ht s k
    have h2 := ht k
    have h3 : s / 2 ^ k % 2 * t k ≤ 1 * t k := Nat.mul_le_mul_right _ (by omega)
    unfold cuH
    omega
theorem cuH_n {t : Nat → Nat} {s n : Nat} (hs : s < 2 ^ n) : ∀ k, cuH t s (n + k) = cuH t s n
  | 0 => rfl
  | k + 1 => by
    show cuH t s (n + k) + s / 2 ^ (n + k) % 2 * t (n + k) = cuH t s n
    have h : 2 ^ n ≤ 2 ^ (n + k) := Nat.pow_le_pow_right (by decide) (by omega)
    rw [cuH_n hs k, Nat.div_eq_of_lt (by omega)]
    omega
theorem cuH_add {t : Nat → Nat} {a b z : Nat} : ∀ k, (∀ i, i < k → a / 2 ^ i % 2 = b / 2 ^ i % 2 + (if i = z then 1 else 0)) → cuH t a k = cuH t b k + (if z < k then t z else 0)
  | 0, _ => by simp [cuH]
  | k + 1, h => by
    have e := cuH_add (t := t) k (fun i hi => h i (by omega))
    unfold cuH
    rw [e, h k (by omega), Nat.add_mul]
    by_cases q : k = z
    · subst q
      simp
      omega
    · have : (z < k + 1) ↔ z < k := by omega
      simp [q, this]
      omega
theorem cuH_0 (t : Nat → Nat) : ∀ k, cuH t 0 k = 0
  | 0 => rfl
  | k + 1 => by
    unfold cuH
    rw [cuH_0 t k]
    simp
def cuZ : Nat → Nat → Nat
  | 0, _ => 0
  | k + 1, b => if b % 2 = 1 then 0 else cuZ k (b / 2) + 1
theorem cuZ_bits : ∀ b, b < 256 → 1 ≤ b → cuZ 7 b < 8 ∧ ∀ i, i < 8 → b / 2 ^ i % 2 = (b &&& (b - 1)) / 2 ^ i % 2 + (if i = cuZ 7 b then 1 else 0) := by decide +kernel
theorem cuZ_mask : ∀ b, b < 256 → 1 ≤ b → (nI b ^^^ (-1)) &&& (nI b - 1) = nI (2 ^ cuZ 7 b - 1) := by decide +kernel
theorem cuZ_n : ∀ n, n < 9 → ∀ b, b < 256 → 1 ≤ b → b < 2 ^ n → cuZ 7 b < n := by decide +kernel
theorem cuH_low {t : Nat → Nat} {b : Nat} (h1 : 1 ≤ b) (h2 : b < 256) : cuH t b 8 = cuH t (b &&& (b - 1)) 8 + t (cuZ 7 b) := by
  obtain ⟨z1, z2⟩ := cuZ_bits b h2 h1
  rw [cuH_add 8 z2, if_pos z1]
theorem cu_all : ∀ n, n < 9 → 1 <<< (nI n &&& 31) - 1 = nI (2 ^ n - 1) := by decide +kernel
theorem cu_all2 : ∀ n, n < 9 → 1 <<< (nI n &&& 31) = nI (2 ^ n) := by decide +kernel
theorem cu_not : ∀ n, n < 9 → ∀ b, b < 256 → b < 2 ^ n → nI (2 ^ n - 1) &&& (nI b ^^^ (-1)) = nI (2 ^ n - 1 - b) := by decide +kernel
def cuAll (p : Nat → Bool) : Nat → Bool
  | 0 => true
  | k + 1 => p k && cuAll p k
theorem cuAll_at {p : Nat → Bool} : ∀ {k : Nat}, cuAll p k = true → ∀ i, i < k → p i = true
  | 0, _, i, hi => absurd hi (by omega)
  | k + 1, h, i, hi => by
    obtain ⟨h1, h2⟩ := (Bool.and_eq_true _ _).mp h
    by_cases q : i = k
    · rw [q]; exact h1
    · exact cuAll_at h2 i (by omega)
def cuSb (n : Nat) : Bool := cuAll (fun b => cuAll (fun s => Nat.beq (s &&& (2 ^ n - 1 - b)) s == Nat.beq (b &&& s) 0) (2 ^ n)) (2 ^ n)
theorem cuSb_t : cuAll cuSb 9 = true := by decide +kernel
theorem cu_sub {n b s : Nat} (hn : n < 9) (hb : b < 2 ^ n) (hs : s < 2 ^ n) : (s &&& (2 ^ n - 1 - b) = s ↔ b &&& s = 0) := by
  have h := cuAll_at (cuAll_at (cuAll_at cuSb_t n hn) b hb) s hs
  have h := eq_of_beq h
  constructor
  · intro q
    rw [q, am_beq] at h
    exact Nat.eq_of_beq_eq_true h.symm
  · intro q
    rw [q, am_beq] at h
    exact Nat.eq_of_beq_eq_true h
theorem cu_prev : ∀ (k r s b : Nat), s < 2 ^ k → b &&& r = b → s &&& r = s → b < s → b ≤ (s - 1) &&& r := by
  intro k
  induction k with
  | zero =>
    intro r s b hs _ _ hb
    omega
  | succ k ih =>
    intro r s b hs hb hsr hlt
    have d1 : (b / 2) &&& (r / 2) = b / 2 := by rw [← Nat.and_div_two, hb]
    have d2 : (s / 2) &&& (r / 2) = s / 2 := by rw [← Nat.and_div_two, hsr]
    have m1 : (b % 2 = 1 ∧ r % 2 = 1) ↔ b % 2 = 1 := by rw [← Nat.and_mod_two_eq_one, hb]
    have e1 : ((s - 1) &&& r) / 2 = ((s - 1) / 2) &&& (r / 2) := Nat.and_div_two
    have e2 : ((s - 1) &&& r) % 2 = 1 ↔ ((s - 1) % 2 = 1 ∧ r % 2 = 1) := Nat.and_mod_two_eq_one
    rcases Nat.mod_two_eq_zero_or_one s with h | h
    · have hlt2 : b / 2 < s / 2 := by omega
      have h3 := ih (r / 2) (s / 2) (b / 2) (by rw [Nat.pow_succ] at hs; omega) d1 d2 hlt2
      rw [show (s - 1) / 2 = s / 2 - 1 by omega] at e1
      rw [← e1] at h3
      rcases Nat.mod_two_eq_zero_or_one b with g | g
      · omega
      · have := m1.mpr g
        have := e2.mpr ⟨by omega, this.2⟩
        omega
    · rw [show (s - 1) / 2 = s / 2 by omega, d2] at e1
      omega
/-- the least one -/
def fM (p : Nat → Bool) : Nat → Nat → Option Nat
  | 0, _ => none
  | k + 1, i => if p i = true then some i else fM p k (i + 1)
theorem fM_none {p : Nat → Bool} : ∀ {k i : Nat}, (∀ j, i ≤ j → j < i + k → p j = false) → fM p k i = none
  | 0, _, _ => rfl
  | k + 1, i, h => by
    unfold fM
    rw [if_neg (by rw [h i (by omega) (by omega)]; decide)]
    exact fM_none (fun j h1 h2 => h j (by omega) (by omega))
theorem fM_some {p : Nat → Bool} {s : Nat} : ∀ {k i : Nat}, i ≤ s → s < i + k → p s = true → (∀ j, i ≤ j → j < s → p j = false) → fM p k i = some s
  | 0, _, h1, h2, _, _ => absurd h1 (by omega)
  | k + 1, i, h1, h2, h3, h4 => by
    unfold fM
    by_cases q : i = s
    · subst q
      rw [if_pos h3]
    · rw [if_neg (by rw [h4 i (by omega) (by omega)]; decide)]
      exact fM_some (by omega) (by omega) h3 (fun j h1 h2 => h4 j (by omega) h2)
theorem fM_lt {p : Nat → Bool} {s : Nat} : ∀ {k i : Nat}, fM p k i = some s → s < i + k
  | 0, _, h => by cases h
  | k + 1, i, h => by
    unfold fM at h
    by_cases q : p i = true
    · rw [if_pos q] at h
      cases h
      omega
    · rw [if_neg q] at h
      have := fM_lt h
      omega
def cuP (t : Nat → Nat) (f o i : Nat) : Nat → Bool := fun s => Nat.beq (i &&& s) 0 && Nat.beq (o + cuH t s 8) (f + cuH t i 8)
def cuG (st : Option (Nat × Nat × Nat)) (x : Nat) : Bool := match st with
  | none => true
  | some (y, _, _) => Nat.blt y x
def cuN (t : Nat → Nat) (n f o i : Nat) (st : Option (Nat × Nat × Nat)) : Option (Nat × Nat × Nat) := if cuG st (f + cuH t i 8) = true then (match fM (cuP t f o i) (2 ^ n) 0 with
  | none => st
  | some s => some (f + cuH t i 8, i, s)) else st
def cuR (t : Nat → Nat) (n f o : Nat) : Nat → Nat → Option (Nat × Nat × Nat) → Option (Nat × Nat × Nat)
  | 0, _, st => st
  | k + 1, i, st => cuR t n f o k (i + 1) (cuN t n f o i st)
