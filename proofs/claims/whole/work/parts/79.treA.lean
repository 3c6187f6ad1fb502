/-! ===== treaties: what follows from lines; rows of bits ===== -/
section M79
variable {ls ls' : List tr_L} {a b c x y z : Nat}
theorem tr_eq_rf : tr_eq ls a a := fun _ _ h => h
theorem tr_eq_tr (h1 : tr_eq ls a b) (h2 : tr_eq ls b c) : tr_eq ls a c := fun S hS h => h2 S hS (h1 S hS h)
theorem tr_eq_sy (h : tr_eq ls a b) : tr_eq ls b a := fun S hS hb => Classical.byContradiction (fun hn => h (fun x => ¬ S x) (fun x y hxy => not_congr (hS x y hxy)) hn hb)
theorem tr_eq_ln (h : (x, y, true) ∈ ls) : tr_eq ls x y := fun _ hS hx => (hS x y h).mp hx
theorem tr_eq_mono (hs : ∀ l, l ∈ ls → l ∈ ls') (h : tr_eq ls a b) : tr_eq ls' a b := fun S hS => h S (fun x y hxy => hS x y (hs _ hxy))
theorem tr_ah_tr (h1 : tr_ah ls a b) (h2 : tr_ah ls b c) : tr_ah ls a c := fun R r1 r2 r3 => r3 a b c (h1 R r1 r2 r3) (h2 R r1 r2 r3)
theorem tr_ah_ln (h : (x, y, false) ∈ ls) : tr_ah ls x y := fun _ r1 _ _ => r1 x y h
theorem tr_ah_mono (hs : ∀ l, l ∈ ls → l ∈ ls') (h : tr_ah ls a b) : tr_ah ls' a b := fun R r1 r2 r3 => h R (fun x y hxy => r1 x y (hs _ hxy)) (fun x y z hxy => r2 x y z (hs _ hxy)) r3
theorem tr_ah_l (h : tr_eq ls x y) (h2 : tr_ah ls x z) : tr_ah ls y z := fun R r1 r2 r3 => h (fun w => R w z) (fun p q hpq => (r2 p q z hpq).1) (h2 R r1 r2 r3)
theorem tr_ah_r (h : tr_eq ls x y) (h2 : tr_ah ls z x) : tr_ah ls z y := fun R r1 r2 r3 => h (fun w => R z w) (fun p q hpq => (r2 p q z hpq).2) (h2 R r1 r2 r3)
def tr_16 (ls : List tr_L) : Prop := ∀ x y e, (x, y, e) ∈ ls → x < 16 ∧ y < 16
theorem tr_ah_16 (hl : tr_16 ls) (h : tr_ah ls b a) : b < 16 ∧ a < 16 := h (fun b a => b < 16 ∧ a < 16) (fun x y hxy => hl x y _ hxy) (fun x y z hxy => by
  have := hl x y _ hxy
  constructor <;> constructor <;> (intro q; omega)) (fun x y z h1 h2 => ⟨h1.1, h2.2⟩)
theorem tr_eq_16 (hl : tr_16 ls) (ha : a < 16) (h : tr_eq ls a b) : b < 16 := h (fun x => x < 16) (fun x y hxy => by
  have := hl x y _ hxy
  constructor <;> (intro; omega)) ha
theorem tr_con_mono (hs : ∀ l, l ∈ ls → l ∈ ls') (h : tr_con ls) : tr_con ls' := h.elim (fun a ha => ⟨a, tr_ah_mono hs ha⟩)
theorem tr_eq_app_f : tr_eq (ls ++ [(x, y, false)]) a b ↔ tr_eq ls a b := by
  constructor
  · intro h S hS
    refine h S (fun p q hpq => ?_)
    rcases List.mem_append.mp hpq with g | g
    · exact hS p q g
    · exact absurd g (by simp)
  · exact tr_eq_mono (fun l hl => List.mem_append_left _ hl)
theorem tr_eq_app_t : tr_eq (ls ++ [(x, y, true)]) a b ↔ ((tr_eq ls x a ∨ tr_eq ls y a) ∧ (tr_eq ls x b ∨ tr_eq ls y b)) ∨ (¬ (tr_eq ls x a ∨ tr_eq ls y a) ∧ tr_eq ls a b) := by
  have mono : ∀ {p q}, tr_eq ls p q → tr_eq (ls ++ [(x, y, true)]) p q := fun h => tr_eq_mono (fun l hl => List.mem_append_left _ hl) h
  have new : tr_eq (ls ++ [(x, y, true)]) x y := tr_eq_ln (List.mem_append_right _ (by simp))
  constructor
  · intro h
    by_cases ha : tr_eq ls x a ∨ tr_eq ls y a
    · left
      refine ⟨ha, h (fun z => tr_eq ls x z ∨ tr_eq ls y z) (fun p q hpq => ?_) ha⟩
      rcases List.mem_append.mp hpq with g | g
      · have e := tr_eq_ln g
        constructor
        · rintro (t | t)
          · exact Or.inl (tr_eq_tr t e)
          · exact Or.inr (tr_eq_tr t e)
        · rintro (t | t)
          · exact Or.inl (tr_eq_tr t (tr_eq_sy e))
          · exact Or.inr (tr_eq_tr t (tr_eq_sy e))
      · have g : p = x ∧ q = y := by simpa using g
        rw [g.1, g.2]
        exact ⟨fun _ => Or.inr tr_eq_rf, fun _ => Or.inl tr_eq_rf⟩
    · right
      refine ⟨ha, h (fun z => tr_eq ls a z) (fun p q hpq => ?_) tr_eq_rf⟩
      rcases List.mem_append.mp hpq with g | g
      · have e := tr_eq_ln g
        exact ⟨fun t => tr_eq_tr t e, fun t => tr_eq_tr t (tr_eq_sy e)⟩
      · have g : p = x ∧ q = y := by simpa using g
        rw [g.1, g.2]
        exact ⟨fun t => absurd (Or.inl (tr_eq_sy t)) ha, fun t => absurd (Or.inr (tr_eq_sy t)) ha⟩
  · rintro (⟨h1, h2⟩ | ⟨-, h⟩)
    · have xa : ∀ {z}, tr_eq ls x z ∨ tr_eq ls y z → tr_eq (ls ++ [(x, y, true)]) x z := by
        rintro z (t | t)
        · exact mono t
        · exact tr_eq_tr new (mono t)
      exact tr_eq_tr (tr_eq_sy (xa h1)) (xa h2)
    · exact mono h
end M79
/-! rows of bits -/
theorem bb_ext {x y : Int32} (h : ∀ i, i < 32 → bb x i = bb y i) : x = y := Int32.toBitVec_inj.mp (BitVec.eq_of_getLsbD_eq (fun i hi => h i hi))
theorem bb_or (x y : Int32) (i : Nat) : bb (x ||| y) i = (bb x i || bb y i) := by
  unfold bb
  rw [Int32.toBitVec_or, BitVec.getLsbD_or]
theorem bb_and (x y : Int32) (i : Nat) : bb (x &&& y) i = (bb x i && bb y i) := by
  unfold bb
  rw [Int32.toBitVec_and, BitVec.getLsbD_and]
theorem bb_not (x : Int32) {i : Nat} (h : i < 32) : bb (x ^^^ (-1)) i = !(bb x i) := by
  unfold bb
  rw [Int32.toBitVec_xor, BitVec.getLsbD_xor, show (-1 : Int32).toBitVec.getLsbD i = true by
    have : ∀ i, i < 32 → (-1 : Int32).toBitVec.getLsbD i = true := by decide +kernel
    exact this i h]
  simp
section M79b
variable {x y : Int32} {S S' : Nat → Prop} {b : Nat}
theorem ts_congr (h : ∀ b, b < 16 → (S b ↔ S' b)) (hx : tr_set x S) : tr_set x S' := fun b hb => by
  rw [hx b hb]
  exact ⟨fun q => ⟨q.1, (h b q.1).mp q.2⟩, fun q => ⟨q.1, (h b q.1).mpr q.2⟩⟩
theorem ts_ext (hx : tr_set x S) (hy : tr_set y S) : x = y := bb_ext (fun i hi => by
  have := (hx i hi).trans (hy i hi).symm
  cases h1 : bb x i <;> cases h2 : bb y i <;> simp_all)
theorem ts_or (hx : tr_set x S) (hy : tr_set y S') : tr_set (x ||| y) (fun b => S b ∨ S' b) := fun b hb => by
  rw [bb_or, Bool.or_eq_true, hx b hb, hy b hb]
  constructor
  · rintro (q | q)
    · exact ⟨q.1, Or.inl q.2⟩
    · exact ⟨q.1, Or.inr q.2⟩
  · rintro ⟨q, t | t⟩
    · exact Or.inl ⟨q, t⟩
    · exact Or.inr ⟨q, t⟩
theorem ts_diff (hx : tr_set x S) (hy : tr_set y S') : tr_set (x &&& (y ^^^ (-1))) (fun b => S b ∧ ¬ S' b) := fun b hb => by
  rw [bb_and, bb_not _ hb, Bool.and_eq_true, hx b hb, Bool.not_eq_true', Bool.eq_false_iff, ne_eq, hy b hb]
  constructor
  · rintro ⟨⟨q, t⟩, g⟩
    exact ⟨q, t, fun z => g ⟨q, z⟩⟩
  · rintro ⟨q, t, g⟩
    exact ⟨⟨q, t⟩, fun z => g z.2⟩
theorem ts_bit (hb : b < 16) : tr_set (1 <<< (nI b &&& 31)) (fun c => c = b) := fun c hc => by
  unfold bb
  rw [bt_shl b (by omega) c hc, Nat.beq_eq]
  exact ⟨fun q => ⟨by omega, q.symm⟩, fun q => q.2.symm⟩
theorem ts_0 : tr_set 0 (fun _ => False) := fun b _ => by
  unfold bb
  rw [show (0 : Int32).toBitVec.getLsbD b = false by
    show (0#32).getLsbD b = false
    simp]
  simp
theorem ts_has (hx : tr_set x S) (hb : b < 16) : ((x >>> (nI b &&& 31)) &&& 1 = 0) ↔ ¬ S b := by
  rw [bt_test (by omega)]
  have := hx b (by omega)
  unfold bb at this
  rw [Bool.eq_false_iff, ne_eq, this]
  exact ⟨fun q t => q ⟨hb, t⟩, fun q t => q t.2⟩
theorem ts_and0 (hx : tr_set x S) (hy : tr_set y S') : (x &&& y = 0) ↔ ∀ b, b < 16 → ¬ (S b ∧ S' b) := by
  constructor
  · intro h b hb q
    have e : bb (x &&& y) b = false := by
      rw [h]
      have := ts_0 b (by omega)
      cases t : bb 0 b
      · rfl
      · exact (this.mp t).2.elim
    rw [bb_and, (hx b (by omega)).mpr ⟨hb, q.1⟩, (hy b (by omega)).mpr ⟨hb, q.2⟩] at e
    exact absurd e (by decide)
  · intro h
    refine ts_ext (S := fun _ => False) (fun b hb => ?_) ts_0
    rw [bb_and, Bool.and_eq_true, hx b hb, hy b hb]
    exact ⟨fun q => (h b q.1.1 ⟨q.1.2, q.2.2⟩).elim, fun q => q.2.elim⟩
/-- whether a set has an act, as the reference asks it -/
theorem ts_fhas (hx : tr_set x S) (hb : b < 16) : (f_has x (nI b) = 1 ∧ S b) ∨ (f_has x (nI b) = 0 ∧ ¬ S b) := by
  unfold f_has
  obtain ⟨j, hj, e⟩ := pk_andE (x >>> (nI b &&& 31)) (m := 1) 1 (by decide)
  have h := ts_has hx hb
  rw [e] at h ⊢
  rcases (show j = 0 ∨ j = 1 by omega) with rfl | rfl
  · right
    exact ⟨by decide, h.mp rfl⟩
  · left
    refine ⟨by decide, Classical.byContradiction (fun q => absurd (h.mpr q) (by decide))⟩
end M79b
/-! the closures -/
def E_eqv (E : Nat → Nat → Prop) : Prop := (∀ a, a < 16 → E a a) ∧ (∀ a b, a < 16 → b < 16 → E a b → E b a) ∧ ∀ a b c, a < 16 → b < 16 → c < 16 → E a b → E b c → E a c
/-- ahead shared among those at once -/
def shG (E A : Nat → Nat → Prop) (a c : Nat) : Prop := ∃ b c', b < 16 ∧ c' < 16 ∧ E a b ∧ A b c' ∧ E c' c
/-- through the first k -/
def fwR (R : Nat → Nat → Prop) : Nat → Nat → Nat → Prop
  | 0, a, c => R a c
  | k + 1, a, c => fwR R k a c ∨ (fwR R k a k ∧ fwR R k k c)
theorem fwR_tr (R : Nat → Nat → Prop) : ∀ k m a c, m < k → fwR R k a m → fwR R k m c → fwR R k a c
  | 0, m, a, c, h, _, _ => absurd h (by omega)
  | k + 1, m, a, c, h, h1, h2 => by
    rcases Nat.lt_or_ge m k with q | q
    · rcases h1 with h1 | ⟨h1, h1'⟩ <;> rcases h2 with h2 | ⟨h2, h2'⟩
      · exact Or.inl (fwR_tr R k m a c q h1 h2)
      · exact Or.inr ⟨fwR_tr R k m a k q h1 h2, h2'⟩
      · exact Or.inr ⟨h1, fwR_tr R k m k c q h1' h2⟩
      · exact Or.inr ⟨h1, h2'⟩
    · have : m = k := by omega
      subst this
      have a1 : fwR R m a m := by
        rcases h1 with h1 | ⟨h1, -⟩
        · exact h1
        · exact h1
      have a2 : fwR R m m c := by
        rcases h2 with h2 | ⟨-, h2⟩
        · exact h2
        · exact h2
      exact Or.inr ⟨a1, a2⟩
theorem fwR_le (R : Nat → Nat → Prop) {a c : Nat} (h : R a c) : ∀ k, fwR R k a c
  | 0 => h
  | k + 1 => Or.inl (fwR_le R h k)
theorem fwR_snd {R Z : Nat → Nat → Prop} (h : ∀ a c, a < 16 → c < 16 → R a c → Z a c) (ht : ∀ a b c, b < 16 → Z a b → Z b c → Z a c) : ∀ k a c, k ≤ 16 → a < 16 → c < 16 → fwR R k a c → Z a c
  | 0, a, c, _, ha, hc, q => h a c ha hc q
  | k + 1, a, c, hk, ha, hc, q => by
    rcases q with q | ⟨q1, q2⟩
    · exact fwR_snd h ht k a c (by omega) ha hc q
    · exact ht a k c (by omega) (fwR_snd h ht k a k (by omega) ha (by omega) q1) (fwR_snd h ht k k c (by omega) (by omega) hc q2)
theorem fwR_cmp {R E : Nat → Nat → Prop} (hl : ∀ x y c, E x y → (R x c ↔ R y c)) (hr : ∀ x y a, E x y → (R a x ↔ R a y)) : ∀ k, (∀ x y c, E x y → (fwR R k x c ↔ fwR R k y c)) ∧ (∀ x y a, E x y → (fwR R k a x ↔ fwR R k a y))
  | 0 => ⟨hl, hr⟩
  | k + 1 => by
    obtain ⟨h1, h2⟩ := fwR_cmp hl hr k
    refine ⟨fun x y c e => ?_, fun x y a e => ?_⟩
    · show (_ ∨ _) ↔ (_ ∨ _)
      rw [h1 x y c e, h1 x y k e]
    · show (_ ∨ _) ↔ (_ ∨ _)
      rw [h2 x y a e, h2 x y k e]
/-- a line more: what is ahead then -/
theorem tr_ah_app {ls : List tr_L} {x y : Nat} {e : Bool} (hl : tr_16 (ls ++ [(x, y, e)])) {A : Nat → Nat → Prop} (hA : ∀ a c, a < 16 → c < 16 → (A a c ↔ (tr_ah ls c a ∨ (e = false ∧ a = y ∧ c = x)))) {E : Nat → Nat → Prop} (hE : ∀ a c, a < 16 → c < 16 → (E a c ↔ tr_eq (ls ++ [(x, y, e)]) a c)) {a c : Nat} (ha : a < 16) (hc : c < 16) : fwR (shG E A) 16 a c ↔ tr_ah (ls ++ [(x, y, e)]) c a := by
  have hl0 : tr_16 ls := fun p q t h => hl p q t (List.mem_append_left _ h)
  have sub : ∀ l, l ∈ ls → l ∈ ls ++ [(x, y, e)] := fun l h => List.mem_append_left _ h
  have hxy := hl x y e (List.mem_append_right _ (by simp))
  constructor
  · refine fwR_snd (Z := fun a c => tr_ah (ls ++ [(x, y, e)]) c a) (fun a c ha hc h => ?_) (fun a b c _ h1 h2 => tr_ah_tr h2 h1) 16 a c (by omega) ha hc
    obtain ⟨b, c', hb, hc', e1, e2, e3⟩ := h
    have e1 := (hE a b ha hb).mp e1
    have e3 := (hE c' c hc' hc).mp e3
    have e2 : tr_ah (ls ++ [(x, y, e)]) c' b := by
      rcases (hA b c' hb hc').mp e2 with q | ⟨rfl, rfl, rfl⟩
      · exact tr_ah_mono sub q
      · exact tr_ah_ln (List.mem_append_right _ (by simp))
    exact tr_ah_l e3 (tr_ah_r (tr_eq_sy e1) e2)
  · intro h
    -- the relation over all numbers
    have cmp := fwR_cmp (R := shG (fun p q => p < 16 ∧ q < 16 ∧ tr_eq (ls ++ [(x, y, e)]) p q) A) (E := fun p q => p < 16 ∧ q < 16 ∧ tr_eq (ls ++ [(x, y, e)]) p q) (fun p q r hpq => by
      constructor
      · rintro ⟨b, c', hb, hc', e1, e2, e3⟩
        exact ⟨b, c', hb, hc', ⟨hpq.2.1, hb, tr_eq_tr (tr_eq_sy hpq.2.2) e1.2.2⟩, e2, e3⟩
      · rintro ⟨b, c', hb, hc', e1, e2, e3⟩
        exact ⟨b, c', hb, hc', ⟨hpq.1, hb, tr_eq_tr hpq.2.2 e1.2.2⟩, e2, e3⟩) (fun p q r hpq => by
      constructor
      · rintro ⟨b, c', hb, hc', e1, e2, e3⟩
        exact ⟨b, c', hb, hc', e1, e2, hc', hpq.2.1, tr_eq_tr e3.2.2 hpq.2.2⟩
      · rintro ⟨b, c', hb, hc', e1, e2, e3⟩
        exact ⟨b, c', hb, hc', e1, e2, hc', hpq.1, tr_eq_tr e3.2.2 (tr_eq_sy hpq.2.2)⟩) 16
    have key := h (fun c a => a < 16 ∧ c < 16 ∧ fwR (shG (fun p q => p < 16 ∧ q < 16 ∧ tr_eq (ls ++ [(x, y, e)]) p q) A) 16 a c) (fun p q hpq => ?_) (fun p q r hpq => ?_) (fun p q r h1 h2 => ⟨h2.1, h1.2.1, fwR_tr _ 16 q r p h1.1 h2.2.2 h1.2.2⟩)
    · refine fwR_snd (Z := fwR (shG E A) 16) (fun a c ha hc q => ?_) (fun p q r hq h1 h2 => fwR_tr _ 16 q p r hq h1 h2) 16 a c (by omega) ha hc key.2.2
      obtain ⟨b, c', hb, hc', e1, e2, e3⟩ := q
      exact fwR_le _ ⟨b, c', hb, hc', (hE a b ha hb).mpr e1.2.2, e2, (hE c' c hc' hc).mpr e3.2.2⟩ 16
    · have hp := hl p q _ hpq
      refine ⟨hp.2, hp.1, fwR_le _ ⟨q, p, hp.2, hp.1, ⟨hp.2, hp.2, tr_eq_rf⟩, (hA q p hp.2 hp.1).mpr ?_, hp.1, hp.1, tr_eq_rf⟩ 16⟩
      rcases List.mem_append.mp hpq with g | g
      · exact Or.inl (tr_ah_ln g)
      · have g : p = x ∧ q = y ∧ false = e := by simpa using g
        exact Or.inr ⟨g.2.2.symm, g.2.1, g.1⟩
    · have hp := hl p q _ hpq
      have eq : p < 16 ∧ q < 16 ∧ tr_eq (ls ++ [(x, y, e)]) p q := ⟨hp.1, hp.2, tr_eq_ln hpq⟩
      constructor
      · constructor
        · rintro ⟨t1, t2, t3⟩
          exact ⟨t1, hp.2, (cmp.2 p q r eq).mp t3⟩
        · rintro ⟨t1, t2, t3⟩
          exact ⟨t1, hp.1, (cmp.2 p q r eq).mpr t3⟩
      · constructor
        · rintro ⟨t1, t2, t3⟩
          exact ⟨hp.2, t2, (cmp.1 p q r eq).mp t3⟩
        · rintro ⟨t1, t2, t3⟩
          exact ⟨hp.1, t2, (cmp.1 p q r eq).mpr t3⟩
