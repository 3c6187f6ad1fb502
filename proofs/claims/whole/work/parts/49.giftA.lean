/-! ===== gifts: lists ===== -/
def gIns (x : Nat) : List Nat → List Nat
  | [] => [x]
  | h :: t => if x ≤ h then x :: h :: t else h :: gIns x t
def gSrt : List Nat → Prop
  | [] => True
  | h :: t => (∀ y, y ∈ t → h ≤ y) ∧ gSrt t
theorem gIns_mem {x y : Nat} : ∀ {l : List Nat}, y ∈ gIns x l ↔ y = x ∨ y ∈ l
  | [] => by simp [gIns]
  | h :: t => by
    unfold gIns
    split
    · simp
    · simp only [List.mem_cons, gIns_mem (l := t)]
      constructor
      · rintro (q | q | q)
        · exact Or.inr (Or.inl q)
        · exact Or.inl q
        · exact Or.inr (Or.inr q)
      · rintro (q | q | q)
        · exact Or.inr (Or.inl q)
        · exact Or.inl q
        · exact Or.inr (Or.inr q)
theorem gIns_srt {x : Nat} : ∀ {l : List Nat}, gSrt l → gSrt (gIns x l)
  | [], _ => ⟨fun y hy => absurd hy (by simp), trivial⟩
  | h :: t, hs => by
    unfold gIns
    split
    · rename_i q
      refine ⟨fun y hy => ?_, hs⟩
      rcases List.mem_cons.mp hy with e | e
      · omega
      · have := hs.1 y e
        omega
    · rename_i q
      refine ⟨fun y hy => ?_, gIns_srt hs.2⟩
      rcases gIns_mem.mp hy with e | e
      · omega
      · exact hs.1 y e
theorem gIns_len {x : Nat} : ∀ {l : List Nat}, (gIns x l).length = l.length + 1
  | [] => rfl
  | h :: t => by
    unfold gIns
    split
    · rfl
    · simp [gIns_len (l := t)]
theorem gIns_head {x : Nat} {l : List Nat} (h : ∀ y, y ∈ l → x ≤ y) : gIns x l = x :: l := by
  cases l with
  | nil => rfl
  | cons a t =>
    unfold gIns
    rw [if_pos (h a (List.mem_cons_self ..))]
theorem gIns_comm {x y : Nat} : ∀ {l : List Nat}, gIns x (gIns y l) = gIns y (gIns x l)
  | [] => by
    simp only [gIns]
    by_cases q : x ≤ y
    · by_cases q2 : y ≤ x
      · rw [show x = y by omega]
      · rw [if_pos q, if_neg q2]
    · rw [if_neg q, if_pos (by omega)]
  | h :: t => by
    simp only [gIns]
    by_cases q1 : x ≤ h
    · by_cases q2 : y ≤ h
      · rw [if_pos q1, if_pos q2]
        simp only [gIns]
        by_cases q : x ≤ y
        · by_cases q3 : y ≤ x
          · rw [show x = y by omega]
          · rw [if_pos q, if_neg q3, if_pos q2]
        · rw [if_neg q, if_pos (show y ≤ x by omega), if_pos q1]
      · rw [if_pos q1, if_neg q2]
        simp only [gIns]
        rw [if_pos q1, if_neg (show ¬ y ≤ x by omega), if_neg q2]
    · by_cases q2 : y ≤ h
      · rw [if_neg q1, if_pos q2]
        simp only [gIns]
        rw [if_neg (show ¬ x ≤ y by omega), if_neg q1, if_pos q2]
      · rw [if_neg q1, if_neg q2]
        simp only [gIns]
        rw [if_neg q1, if_neg q2, gIns_comm (l := t)]
theorem gIns_erase {x : Nat} : ∀ {l : List Nat}, (gIns x l).erase x = l
  | [] => by simp [gIns]
  | h :: t => by
    unfold gIns
    split
    · simp
    · rename_i q
      rw [List.erase_cons_tail (by simp; omega), gIns_erase]
def gOp (m : Bool) (x c : Nat) : Nat := if m = true then max x c else x + c
def gS (m : Bool) : List Nat → List Nat → Nat
  | x :: X, y :: Y => gOp m (gS m X Y) (adif x y)
  | _, _ => 0
theorem gOp_mono {m : Bool} {a b c : Nat} (h : a ≤ b) : gOp m a c ≤ gOp m b c := by
  unfold gOp
  split <;> omega
theorem gOp_comm {m : Bool} {a b c : Nat} : gOp m (gOp m a b) c = gOp m (gOp m a c) b := by
  unfold gOp
  split <;> omega
theorem gOp_mono2 {m : Bool} {s a b c e : Nat} (h : max a b ≤ max c e) (h2 : a + b ≤ c + e) : gOp m (gOp m s a) b ≤ gOp m (gOp m s c) e := by
  unfold gOp
  split <;> omega
theorem adif_comm (a b : Nat) : adif a b = adif b a := by
  unfold adif
  split <;> split <;> omega
theorem adif_x {x x1 y y1 : Nat} (h1 : x ≤ x1) (h2 : y1 ≤ y) : max (adif x y1) (adif x1 y) ≤ max (adif x1 y1) (adif x y) ∧ adif x y1 + adif x1 y ≤ adif x1 y1 + adif x y := by
  unfold adif
  constructor <;> (repeat' split) <;> omega
theorem gS_ins {m : Bool} : ∀ {X Y : List Nat} {x y : Nat}, X.length = Y.length → gSrt X → gSrt Y → gS m (gIns x X) (gIns y Y) ≤ gOp m (gS m X Y) (adif x y)
  | [], [], x, y, _, _, _ => Nat.le_refl _
  | [], y1 :: Y, x, y, h, _, _ => by simp at h
  | x1 :: X, [], x, y, h, _, _ => by simp at h
  | x1 :: X, y1 :: Y, x, y, h, hX, hY => by
    have hl : X.length = Y.length := by simpa using h
    by_cases q1 : x ≤ x1
    · by_cases q2 : y ≤ y1
      · simp only [gIns, if_pos q1, if_pos q2]
        exact Nat.le_refl _
      · simp only [gIns, if_pos q1, if_neg q2]
        have ih := gS_ins (m := m) (x := x1) (y := y) hl hX.2 hY.2
        rw [gIns_head hX.1] at ih
        show gOp m (gS m (x1 :: X) (gIns y Y)) (adif x y1) ≤ gOp m (gOp m (gS m X Y) (adif x1 y1)) (adif x y)
        have e := adif_x (x := x) (x1 := x1) (y := y) (y1 := y1) q1 (by omega)
        refine Nat.le_trans (gOp_mono ih) ?_
        rw [gOp_comm]
        exact gOp_mono2 e.1 e.2
    · by_cases q2 : y ≤ y1
      · simp only [gIns, if_neg q1, if_pos q2]
        have ih := gS_ins (m := m) (x := x) (y := y1) hl hX.2 hY.2
        rw [gIns_head hY.1] at ih
        show gOp m (gS m (gIns x X) (y1 :: Y)) (adif x1 y) ≤ gOp m (gOp m (gS m X Y) (adif x1 y1)) (adif x y)
        have e := adif_x (x := y) (x1 := y1) (y := x) (y1 := x1) q2 (by omega)
        refine Nat.le_trans (gOp_mono ih) ?_
        rw [gOp_comm]
        rw [adif_comm y x1, adif_comm y1 x, adif_comm y1 x1, adif_comm y x] at e
        exact gOp_mono2 e.1 e.2
      · simp only [gIns, if_neg q1, if_neg q2]
        show gOp m (gS m (gIns x X) (gIns y Y)) (adif x1 y1) ≤ gOp m (gOp m (gS m X Y) (adif x1 y1)) (adif x y)
        refine Nat.le_trans (gOp_mono (gS_ins hl hX.2 hY.2)) ?_
        rw [gOp_comm]
        exact Nat.le_refl _
/-- where the new one goes: there its partner is -/
theorem gS_at : ∀ {X W : List Nat} {x : Nat}, W.length = X.length + 1 → gSrt W → ∃ y, y ∈ W ∧ ∀ m, gS m (gIns x X) W = gOp m (gS m X (W.erase y)) (adif x y)
  | [], [], x, h, _ => by simp at h
  | [], [w], x, _, _ => ⟨w, List.mem_cons_self .., fun m => by simp [gIns, gS]⟩
  | [], _ :: _ :: _, x, h, _ => by simp at h
  | x1 :: X, [], x, h, _ => by simp at h
  | x1 :: X, w :: W, x, h, hW => by
    by_cases q : x ≤ x1
    · refine ⟨w, List.mem_cons_self .., fun m => ?_⟩
      simp only [gIns, if_pos q, List.erase_cons_head]
      rfl
    · obtain ⟨y, hy, e⟩ := gS_at (X := X) (W := W) (x := x) (by simpa using h) hW.2
      refine ⟨y, List.mem_cons_of_mem _ hy, fun m => ?_⟩
      simp only [gIns, if_neg q]
      show gOp m (gS m (gIns x X) W) (adif x1 w) = _
      rw [e m, gOp_comm]
      congr 1
      by_cases q2 : w = y
      · subst q2
        rw [List.erase_cons_head]
        cases W with
        | nil => cases hy
        | cons w2 W2 =>
          have h1 : w ≤ w2 := hW.1 w2 (List.mem_cons_self ..)
          have h2 : w2 ≤ w := by
            rcases List.mem_cons.mp hy with z | z
            · omega
            · exact hW.2.1 w z
          have : w2 = w := by omega
          subst this
          rw [List.erase_cons_head]
          rfl
      · rw [List.erase_cons_tail (by simp; omega)]
        rfl
theorem gS_le {m : Bool} : ∀ {X Y : List Nat}, (∀ x, x ∈ X → x < 256) → (∀ y, y ∈ Y → y < 256) → gS m X Y ≤ 255 * X.length
  | [], Y, _, _ => by cases Y <;> exact Nat.zero_le _
  | x :: X, [], _, _ => Nat.zero_le _
  | x :: X, y :: Y, h1, h2 => by
    have ih := gS_le (m := m) (X := X) (Y := Y) (fun z hz => h1 z (List.mem_cons_of_mem _ hz)) (fun z hz => h2 z (List.mem_cons_of_mem _ hz))
    have a := h1 x (List.mem_cons_self ..)
    have b := h2 y (List.mem_cons_self ..)
    show gOp m (gS m X Y) (adif x y) ≤ 255 * (X.length + 1)
    unfold gOp adif
    (repeat' split) <;> omega
/-- the sorted row of the first m -/
def gA (a : Nat → Nat) : Nat → List Nat
  | 0 => []
  | m + 1 => gIns (a m) (gA a m)
/-- the sorted row of those that the bits name -/
def gB (b : Nat → Nat) (s : Nat) : Nat → List Nat
  | 0 => []
  | k + 1 => if s / 2 ^ k % 2 = 1 then gIns (b k) (gB b s k) else gB b s k
theorem gA_len {a : Nat → Nat} : ∀ m, (gA a m).length = m
  | 0 => rfl
  | m + 1 => by
    unfold gA
    rw [gIns_len, gA_len m]
theorem gA_srt {a : Nat → Nat} : ∀ m, gSrt (gA a m)
  | 0 => trivial
  | m + 1 => gIns_srt (gA_srt m)
theorem gA_lt {a : Nat → Nat} (h : ∀ j, a j < 256) : ∀ m x, x ∈ gA a m → x < 256
  | 0, x, hx => by cases hx
  | m + 1, x, hx => by
    rcases gIns_mem.mp hx with e | e
    · rw [e]; exact h m
    · exact gA_lt h m x e
theorem gB_srt {b : Nat → Nat} {s : Nat} : ∀ k, gSrt (gB b s k)
  | 0 => trivial
  | k + 1 => by
    unfold gB
    split
    · exact gIns_srt (gB_srt k)
    · exact gB_srt k
theorem gB_mem {b : Nat → Nat} {s y : Nat} : ∀ k, y ∈ gB b s k → ∃ j, j < k ∧ s / 2 ^ j % 2 = 1 ∧ y = b j
  | 0, h => by cases h
  | k + 1, h => by
    unfold gB at h
    split at h
    · rename_i q
      rcases gIns_mem.mp h with e | e
      · exact ⟨k, by omega, q, e⟩
      · obtain ⟨j, h1, h2⟩ := gB_mem k e
        exact ⟨j, by omega, h2⟩
    · obtain ⟨j, h1, h2⟩ := gB_mem k h
      exact ⟨j, by omega, h2⟩
theorem gB_same {b : Nat → Nat} {s s' : Nat} : ∀ k, (∀ i, i < k → s / 2 ^ i % 2 = s' / 2 ^ i % 2) → gB b s k = gB b s' k
  | 0, _ => rfl
  | k + 1, h => by
    unfold gB
    rw [gB_same k (fun i hi => h i (by omega)), h k (by omega)]
theorem gB_add {b : Nat → Nat} {s s' z : Nat} : ∀ k, (∀ i, i < k → s / 2 ^ i % 2 = s' / 2 ^ i % 2 + (if i = z then 1 else 0)) → z < k → gB b s k = gIns (b z) (gB b s' k)
  | 0, _, h => absurd h (by omega)
  | k + 1, h, hz => by
    by_cases q : z = k
    · subst q
      have e := h z (by omega)
      rw [if_pos rfl] at e
      have e1 : s' / 2 ^ z % 2 = 0 := by omega
      have e2 : s / 2 ^ z % 2 = 1 := by omega
      simp only [gB, e1, e2, if_true]
      have es : gB b s z = gB b s' z := gB_same z (fun i hi => by
        have := h i (by omega)
        rw [if_neg (show ¬ i = z by omega)] at this
        omega)
      rw [es, if_neg (by decide)]
    · have e := h k (by omega)
      rw [if_neg (by omega)] at e
      have ih := gB_add (b := b) k (fun i hi => h i (by omega)) (by omega)
      simp only [gB, e, Nat.add_zero]
      by_cases q2 : s' / 2 ^ k % 2 = 1
      · rw [if_pos q2, if_pos q2, ih, gIns_comm]
      · rw [if_neg q2, if_neg q2, ih]
/-- how many bits -/
def gC (s : Nat) : Nat → Nat
  | 0 => 0
  | k + 1 => gC s k + s / 2 ^ k % 2
theorem gB_len {b : Nat → Nat} {s : Nat} : ∀ k, (gB b s k).length = gC s k
  | 0 => rfl
  | k + 1 => by
    unfold gB gC
    split
    · rw [gIns_len, gB_len k]
      omega
    · rw [gB_len k]
      omega
/-- what the reckoning of the reference holds at these bits -/
def gGood (m : Bool) (cap : Nat) (a b : Nat → Nat) (n s X : Nat) : Prop := gS m (gA a (gC s n)) (gB b s n) ≤ X ∧ ((m = true ∨ gS true (gA a (gC s n)) (gB b s n) ≤ cap) → X ≤ gS m (gA a (gC s n)) (gB b s n))
theorem gBit : ∀ s, s < 256 → ∀ j, j < 8 → s / 2 ^ j % 2 = 1 → ∀ i, i < 8 → s / 2 ^ i % 2 = (s - 2 ^ j) / 2 ^ i % 2 + (if i = j then 1 else 0) := by decide +kernel
theorem gC_add {s s' z : Nat} : ∀ k, (∀ i, i < k → s / 2 ^ i % 2 = s' / 2 ^ i % 2 + (if i = z then 1 else 0)) → gC s k = gC s' k + (if z < k then 1 else 0)
  | 0, _ => by simp [gC]
  | k + 1, h => by
    have e := gC_add k (fun i hi => h i (by omega))
    have e2 := h k (by omega)
    unfold gC
    rw [e, e2]
    by_cases q : k = z
    · subst q
      simp
      omega
    · have : (z < k + 1) ↔ z < k := by omega
      simp [q, this]
      omega
theorem gGood_step {m : Bool} {cap n s X k : Nat} {a b g : Nat → Nat} (ha : ∀ j, a j < 256) (hb : ∀ j, b j < 256) (hn : n ≤ 8) (hs : s < 256) (hk : gC s n = k + 1) (hg : ∀ j, j < n → s / 2 ^ j % 2 = 1 → gGood m cap a b n (s - 2 ^ j) (g j)) (h1 : ∀ j, j < n → s / 2 ^ j % 2 = 1 → (m = true ∨ adif (a k) (b j) ≤ cap) → X ≤ gOp m (g j) (adif (a k) (b j))) (h2 : X = 1000000 ∨ ∃ j, j < n ∧ s / 2 ^ j % 2 = 1 ∧ X = gOp m (g j) (adif (a k) (b j))) : gGood m cap a b n s X := by
  have hc : ∀ j, j < n → s / 2 ^ j % 2 = 1 → gC (s - 2 ^ j) n = k ∧ gB b s n = gIns (b j) (gB b (s - 2 ^ j) n) := fun j hj hbit => by
    have hh := fun i (hi : i < n) => gBit s hs j (by omega) hbit i (by omega)
    have e := gC_add n hh
    rw [if_pos hj] at e
    exact ⟨by omega, gB_add n hh hj⟩
  unfold gGood
  rw [hk]
  constructor
  · rcases h2 with rfl | ⟨j, hj, hbit, rfl⟩
    · have := gS_le (m := m) (gA_lt ha (k + 1)) (fun y hy => by obtain ⟨j, _, _, e⟩ := gB_mem (b := b) (s := s) n hy; rw [e]; exact hb j)
      rw [gA_len] at this
      have hkn : gC s n ≤ n := by
        have : ∀ i, gC s i ≤ i := by
          intro i
          induction i with
          | zero => exact Nat.le_refl _
          | succ i ih =>
            unfold gC
            omega
        exact this n
      omega
    · obtain ⟨e1, e2⟩ := hc j hj hbit
      have gg := (hg j hj hbit).1
      rw [e1] at gg
      rw [e2]
      refine Nat.le_trans (gS_ins (by rw [gA_len, gB_len, e1]) (gA_srt k) (gB_srt n)) (gOp_mono gg)
  · intro hcap
    obtain ⟨y, hy, e⟩ := gS_at (X := gA a k) (W := gB b s n) (x := a k) (by rw [gB_len, gA_len, hk]) (gB_srt n)
    obtain ⟨j, hj, hbit, rfl⟩ := gB_mem n hy
    obtain ⟨e1, e2⟩ := hc j hj hbit
    have e3 : (gB b s n).erase (b j) = gB b (s - 2 ^ j) n := by rw [e2, gIns_erase]
    rw [e3] at e
    show X ≤ gS m (gIns (a k) (gA a k)) (gB b s n)
    rw [e m]
    have hcap' : m = true ∨ (gS true (gA a k) (gB b (s - 2 ^ j) n) ≤ cap ∧ adif (a k) (b j) ≤ cap) := by
      rcases hcap with q | q
      · exact Or.inl q
      · refine Or.inr ?_
        have q2 : gS true (gIns (a k) (gA a k)) (gB b s n) ≤ cap := q
        rw [e true] at q2
        unfold gOp at q2
        rw [if_pos rfl] at q2
        omega
    have gg := (hg j hj hbit).2
    rw [e1] at gg
    have gg2 := gg (hcap'.imp id (fun q => q.1))
    exact Nat.le_trans (h1 j hj hbit (hcap'.imp id (fun q => q.2))) (gOp_mono gg2)
