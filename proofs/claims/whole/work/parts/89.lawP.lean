/-! ===== THE LAW's texts: what they say ===== -/
def ltL : List Int32 := [107, 112, 113, 98, 99, 111, 118, 97, 116, 114]
def muL : List Int32 := [42, 47, 37]
def adL : List Int32 := [43, 45]
def cmL : List Int32 := [60, 62, 61]
/-- a letter's place -/
def ltI (c : Int32) : Nat := (am_sfind c 0 ltL).toNatClampNeg
/-- a sign's kind -/
def sgK (c : Int32) : Nat := if c = 43 then 2 else if c = 45 then 3 else if c = 42 then 4 else if c = 47 then 5 else if c = 37 then 6 else if c = 60 then 7 else if c = 62 then 8 else 9
abbrev lp_R : Type := Option (Except (Nat × Nat) (Nat × List lc_O))
def lpb (r : lp_R) (k : Nat → List lc_O → lp_R) : lp_R := match r with
  | none => none
  | some (.error e) => some (.error e)
  | some (.ok (p, c)) => k p c
/-- reads from a place: 0 a factor, 1 a term, 2 what is left of one, 3 a sum, 4 what is left of one, 5 a test, 6 a part, 7 what is left of one, 8 a choice, 9 what is left of one; o: how many are open -/
def lpr (T : Nat → Int32) (n : Nat) : Nat → Nat → Nat → Nat → lp_R
  | 0, _, _, _ => none
  | f + 1, m, p, o => match m with
    | 0 => if cc T n p = 91 then (if 6 ≤ o then some (.error (5, p)) else lpb (lpr T n f 3 (p + 1) (o + 1)) (fun p1 c1 => if cc T n p1 = 93 then some (.ok (p1 + 1, c1)) else some (.error (1, p1)))) else if onl ltL (cc T n p) = true then some (.ok (p + 1, [(1, ltI (cc T n p))])) else some (match numF T n 5 p with
      | .error e => .error e
      | .ok (p1, x) => .ok (p1, [(0, x)]))
    | 1 => lpb (lpr T n f 0 p o) (fun p1 c1 => lpb (lpr T n f 2 p1 o) (fun p2 c2 => some (.ok (p2, c1 ++ c2))))
    | 2 => if onl muL (cc T n p) = true then lpb (lpr T n f 0 (p + 1) o) (fun p1 c1 => lpb (lpr T n f 2 p1 o) (fun p2 c2 => some (.ok (p2, c1 ++ (sgK (cc T n p), 0) :: c2)))) else some (.ok (p, []))
    | 3 => lpb (lpr T n f 1 p o) (fun p1 c1 => lpb (lpr T n f 4 p1 o) (fun p2 c2 => some (.ok (p2, c1 ++ c2))))
    | 4 => if onl adL (cc T n p) = true then lpb (lpr T n f 1 (p + 1) o) (fun p1 c1 => lpb (lpr T n f 4 p1 o) (fun p2 c2 => some (.ok (p2, c1 ++ (sgK (cc T n p), 0) :: c2)))) else some (.ok (p, []))
    | 5 => if cc T n p = 40 then (if 6 ≤ o then some (.error (5, p)) else lpb (lpr T n f 8 (p + 1) (o + 1)) (fun p1 c1 => if cc T n p1 = 41 then some (.ok (p1 + 1, c1)) else some (.error (1, p1)))) else if cc T n p = 33 then (if 6 ≤ o then some (.error (5, p)) else lpb (lpr T n f 5 (p + 1) (o + 1)) (fun p1 c1 => some (.ok (p1, c1 ++ [(10, 0)])))) else lpb (lpr T n f 3 p o) (fun p1 c1 => if onl cmL (cc T n p1) = true then lpb (lpr T n f 3 (p1 + 1) o) (fun p2 c2 => some (.ok (p2, c1 ++ (c2 ++ [(sgK (cc T n p1), 0)])))) else some (.error (1, p1)))
    | 6 => lpb (lpr T n f 5 p o) (fun p1 c1 => lpb (lpr T n f 7 p1 o) (fun p2 c2 => some (.ok (p2, c1 ++ c2))))
    | 7 => if cc T n p = 38 then lpb (lpr T n f 5 (p + 1) o) (fun p1 c1 => lpb (lpr T n f 7 p1 o) (fun p2 c2 => some (.ok (p2, (11, c1.length + 1) :: (c1 ++ c2))))) else some (.ok (p, []))
    | 8 => lpb (lpr T n f 6 p o) (fun p1 c1 => lpb (lpr T n f 9 p1 o) (fun p2 c2 => some (.ok (p2, c1 ++ c2))))
    | 9 => if cc T n p = 124 then lpb (lpr T n f 6 (p + 1) o) (fun p1 c1 => lpb (lpr T n f 9 p1 o) (fun p2 c2 => some (.ok (p2, (12, c1.length + 1) :: (c1 ++ c2))))) else some (.ok (p, []))
    | _ => none
theorem lpr_0 {T : Nat → Int32} {n f p o : Nat} : lpr T n (f + 1) 0 p o = (if cc T n p = 91 then (if 6 ≤ o then some (.error (5, p)) else lpb (lpr T n f 3 (p + 1) (o + 1)) (fun p1 c1 => if cc T n p1 = 93 then some (.ok (p1 + 1, c1)) else some (.error (1, p1)))) else if onl ltL (cc T n p) = true then some (.ok (p + 1, [(1, ltI (cc T n p))])) else some (match numF T n 5 p with
      | .error e => .error e
      | .ok (p1, x) => .ok (p1, [(0, x)]))) := rfl
theorem lpr_1 {T : Nat → Int32} {n f p o : Nat} : lpr T n (f + 1) 1 p o = (lpb (lpr T n f 0 p o) (fun p1 c1 => lpb (lpr T n f 2 p1 o) (fun p2 c2 => some (.ok (p2, c1 ++ c2))))) := rfl
theorem lpr_2 {T : Nat → Int32} {n f p o : Nat} : lpr T n (f + 1) 2 p o = (if onl muL (cc T n p) = true then lpb (lpr T n f 0 (p + 1) o) (fun p1 c1 => lpb (lpr T n f 2 p1 o) (fun p2 c2 => some (.ok (p2, c1 ++ (sgK (cc T n p), 0) :: c2)))) else some (.ok (p, []))) := rfl
theorem lpr_3 {T : Nat → Int32} {n f p o : Nat} : lpr T n (f + 1) 3 p o = (lpb (lpr T n f 1 p o) (fun p1 c1 => lpb (lpr T n f 4 p1 o) (fun p2 c2 => some (.ok (p2, c1 ++ c2))))) := rfl
theorem lpr_4 {T : Nat → Int32} {n f p o : Nat} : lpr T n (f + 1) 4 p o = (if onl adL (cc T n p) = true then lpb (lpr T n f 1 (p + 1) o) (fun p1 c1 => lpb (lpr T n f 4 p1 o) (fun p2 c2 => some (.ok (p2, c1 ++ (sgK (cc T n p), 0) :: c2)))) else some (.ok (p, []))) := rfl
theorem lpr_5 {T : Nat → Int32} {n f p o : Nat} : lpr T n (f + 1) 5 p o = (if cc T n p = 40 then (if 6 ≤ o then some (.error (5, p)) else lpb (lpr T n f 8 (p + 1) (o + 1)) (fun p1 c1 => if cc T n p1 = 41 then some (.ok (p1 + 1, c1)) else some (.error (1, p1)))) else if cc T n p = 33 then (if 6 ≤ o then some (.error (5, p)) else lpb (lpr T n f 5 (p + 1) (o + 1)) (fun p1 c1 => some (.ok (p1, c1 ++ [(10, 0)])))) else lpb (lpr T n f 3 p o) (fun p1 c1 => if onl cmL (cc T n p1) = true then lpb (lpr T n f 3 (p1 + 1) o) (fun p2 c2 => some (.ok (p2, c1 ++ (c2 ++ [(sgK (cc T n p1), 0)])))) else some (.error (1, p1)))) := rfl
theorem lpr_6 {T : Nat → Int32} {n f p o : Nat} : lpr T n (f + 1) 6 p o = (lpb (lpr T n f 5 p o) (fun p1 c1 => lpb (lpr T n f 7 p1 o) (fun p2 c2 => some (.ok (p2, c1 ++ c2))))) := rfl
theorem lpr_7 {T : Nat → Int32} {n f p o : Nat} : lpr T n (f + 1) 7 p o = (if cc T n p = 38 then lpb (lpr T n f 5 (p + 1) o) (fun p1 c1 => lpb (lpr T n f 7 p1 o) (fun p2 c2 => some (.ok (p2, (11, c1.length + 1) :: (c1 ++ c2))))) else some (.ok (p, []))) := rfl
theorem lpr_8 {T : Nat → Int32} {n f p o : Nat} : lpr T n (f + 1) 8 p o = (lpb (lpr T n f 6 p o) (fun p1 c1 => lpb (lpr T n f 9 p1 o) (fun p2 c2 => some (.ok (p2, c1 ++ c2))))) := rfl
theorem lpr_9 {T : Nat → Int32} {n f p o : Nat} : lpr T n (f + 1) 9 p o = (if cc T n p = 124 then lpb (lpr T n f 6 (p + 1) o) (fun p1 c1 => lpb (lpr T n f 9 p1 o) (fun p2 c2 => some (.ok (p2, (12, c1.length + 1) :: (c1 ++ c2))))) else some (.ok (p, []))) := rfl
theorem lpb_ok {r : lp_R} {k : Nat → List lc_O → lp_R} {p : Nat} {c : List lc_O} (h : lpb r k = some (.ok (p, c))) : ∃ p1 c1, r = some (.ok (p1, c1)) ∧ k p1 c1 = some (.ok (p, c)) := by
  unfold lpb at h
  split at h
  · exact absurd h (by simp)
  · exact absurd h (by simp)
  · exact ⟨_, _, rfl, h⟩
theorem lpb_er {r : lp_R} {k : Nat → List lc_O → lp_R} {e : Nat × Nat} (h : lpb r k = some (.error e)) : r = some (.error e) ∨ ∃ p1 c1, r = some (.ok (p1, c1)) ∧ k p1 c1 = some (.error e) := by
  unfold lpb at h
  split at h
  · exact absurd h (by simp)
  · left
    rename_i e'
    have : e' = e := by simpa using h
    rw [this]
  · exact Or.inr ⟨_, _, rfl, h⟩
theorem cc_p {T : Nat → Int32} {n p : Nat} {c : Int32} (h : cc T n p = c) (hc : c ≠ -1) : p < n := by
  rcases Nat.lt_or_ge p n with q | q
  · exact q
  · rw [cc_ge q] at h
    exact absurd h.symm hc
theorem lt_m1 : onl ltL (-1) = false := by decide
theorem mu_m1 : onl muL (-1) = false := by decide
theorem ad_m1 : onl adL (-1) = false := by decide
theorem cm_m1 : onl cmL (-1) = false := by decide
/-- how far a reading comes, how long its code is -/
theorem lp_len {T : Nat → Int32} {n : Nat} : ∀ (f m p o p1 : Nat) (c : List lc_O), p ≤ n → lpr T n f m p o = some (.ok (p1, c)) → p1 ≤ n ∧ p + c.length ≤ p1 ∧ ((m = 0 ∨ m = 1 ∨ m = 3 ∨ m = 5 ∨ m = 6 ∨ m = 8) → p < p1) := by
  intro f
  induction f with
  | zero =>
    intro m p o p1 c _ h
    exact absurd h (by simp [lpr])
  | succ f ih =>
    intro m p o p1 c hp h
    have two : ∀ a b : Nat, (a = 0 ∨ a = 1 ∨ a = 3 ∨ a = 5 ∨ a = 6 ∨ a = 8) → lpb (lpr T n f a p o) (fun p1 c1 => lpb (lpr T n f b p1 o) (fun p2 c2 => some (.ok (p2, c1 ++ c2)))) = some (.ok (p1, c)) → p1 ≤ n ∧ p + c.length ≤ p1 ∧ p < p1 := by
      intro a b ha h
      obtain ⟨q1, c1, h1, h⟩ := lpb_ok h
      obtain ⟨q2, c2, h2, h⟩ := lpb_ok h
      have e : q2 = p1 ∧ c1 ++ c2 = c := by simpa using h
      have l1 := ih a p o q1 c1 hp h1
      have l2 := ih b q1 o q2 c2 l1.1 h2
      have l3 := l1.2.2 ha
      rw [← e.2, List.length_append]
      omega
    have tl : ∀ (a b : Nat) (g : List lc_O → List lc_O → List lc_O), p < n → (∀ x y, (g x y).length = x.length + y.length + 1) → lpb (lpr T n f a (p + 1) o) (fun p1 c1 => lpb (lpr T n f b p1 o) (fun p2 c2 => some (.ok (p2, g c1 c2)))) = some (.ok (p1, c)) → p1 ≤ n ∧ p + c.length ≤ p1 := by
      intro a b g hpl hg h
      obtain ⟨q1, c1, h1, h⟩ := lpb_ok h
      obtain ⟨q2, c2, h2, h⟩ := lpb_ok h
      have e : q2 = p1 ∧ g c1 c2 = c := by simpa using h
      have l1 := ih a (p + 1) o q1 c1 hpl h1
      have l2 := ih b q1 o q2 c2 l1.1 h2
      rw [← e.2, hg]
      omega
    have nil : some (Except.ok (p, [])) = (some (.ok (p1, c)) : lp_R) → p1 ≤ n ∧ p + c.length ≤ p1 := by
      intro h
      have e : p = p1 ∧ [] = c := by simpa using h
      rw [← e.2]
      simp
      omega
    unfold lpr at h
    split at h
    · split at h
      · rename_i hc
        have hpl := cc_p hc (by decide)
        split at h
        · exact absurd h (by simp)
        · obtain ⟨q1, c1, h1, h⟩ := lpb_ok h
          have l1 := ih 3 (p + 1) (o + 1) q1 c1 hpl h1
          split at h
          · rename_i hc2
            have := cc_p hc2 (by decide)
            have e : q1 + 1 = p1 ∧ c1 = c := by simpa using h
            rw [← e.2]
            omega
          · exact absurd h (by simp)
      · split at h
        · rename_i hc
          have hpl := onl_lt lt_m1 hc
          have e : p + 1 = p1 ∧ [(1, ltI (cc T n p))] = c := by simpa using h
          rw [← e.2]
          simp
          omega
        · split at h
          · exact absurd h (by simp)
          · rename_i q1 x hnum
            have e : q1 = p1 ∧ [(0, x)] = c := by simpa using h
            have := numF_ok hp hnum
            rw [← e.2]
            simp
            omega
    · have := two 0 2 (by omega) h
      exact ⟨this.1, this.2.1, fun _ => this.2.2⟩
    · split at h
      · rename_i hc
        have := tl 0 2 (fun c1 c2 => c1 ++ (sgK (cc T n p), 0) :: c2) (onl_lt mu_m1 hc) (fun x y => by simp; omega) h
        exact ⟨this.1, this.2, fun q => by omega⟩
      · have := nil h
        exact ⟨this.1, this.2, fun q => by omega⟩
    · have := two 1 4 (by omega) h
      exact ⟨this.1, this.2.1, fun _ => this.2.2⟩
    · split at h
      · rename_i hc
        have := tl 1 4 (fun c1 c2 => c1 ++ (sgK (cc T n p), 0) :: c2) (onl_lt ad_m1 hc) (fun x y => by simp; omega) h
        exact ⟨this.1, this.2, fun q => by omega⟩
      · have := nil h
        exact ⟨this.1, this.2, fun q => by omega⟩
    · split at h
      · rename_i hc
        have hpl := cc_p hc (by decide)
        split at h
        · exact absurd h (by simp)
        · obtain ⟨q1, c1, h1, h⟩ := lpb_ok h
          have l1 := ih 8 (p + 1) (o + 1) q1 c1 hpl h1
          split at h
          · rename_i hc2
            have := cc_p hc2 (by decide)
            have e : q1 + 1 = p1 ∧ c1 = c := by simpa using h
            rw [← e.2]
            omega
          · exact absurd h (by simp)
      · split at h
        · rename_i hc
          have hpl := cc_p hc (by decide)
          split at h
          · exact absurd h (by simp)
          · obtain ⟨q1, c1, h1, h⟩ := lpb_ok h
            have l1 := ih 5 (p + 1) (o + 1) q1 c1 hpl h1
            have e : q1 = p1 ∧ c1 ++ [(10, 0)] = c := by simpa using h
            rw [← e.2]
            simp
            omega
        · obtain ⟨q1, c1, h1, h⟩ := lpb_ok h
          have l1 := ih 3 p o q1 c1 hp h1
          split at h
          · rename_i hc
            have hpl := onl_lt cm_m1 hc
            obtain ⟨q2, c2, h2, h⟩ := lpb_ok h
            have l2 := ih 3 (q1 + 1) o q2 c2 hpl h2
            have e : q2 = p1 ∧ c1 ++ (c2 ++ [(sgK (cc T n q1), 0)]) = c := by simpa using h
            rw [← e.2]
            simp
            omega
          · exact absurd h (by simp)
    · have := two 5 7 (by omega) h
      exact ⟨this.1, this.2.1, fun _ => this.2.2⟩
    · split at h
      · rename_i hc
        have := tl 5 7 (fun c1 c2 => (11, c1.length + 1) :: (c1 ++ c2)) (cc_p hc (by decide)) (fun x y => by simp) h
        exact ⟨this.1, this.2, fun q => by omega⟩
      · have := nil h
        exact ⟨this.1, this.2, fun q => by omega⟩
    · have := two 6 9 (by omega) h
      exact ⟨this.1, this.2.1, fun _ => this.2.2⟩
    · split at h
      · rename_i hc
        have := tl 6 9 (fun c1 c2 => (12, c1.length + 1) :: (c1 ++ c2)) (cc_p hc (by decide)) (fun x y => by simp) h
        exact ⟨this.1, this.2, fun q => by omega⟩
      · have := nil h
        exact ⟨this.1, this.2, fun q => by omega⟩
    · exact absurd h (by simp)
theorem lp_er {T : Nat → Int32} {n : Nat} : ∀ (f m p o : Nat) (e : Nat × Nat), p ≤ n → lpr T n f m p o = some (.error e) → 1 ≤ e.1 ∧ e.1 ≤ 6 ∧ e.2 ≤ n := by
  intro f
  induction f with
  | zero =>
    intro m p o e _ h
    exact absurd h (by simp [lpr])
  | succ f ih =>
    intro m p o e hp h
    have ee : ∀ a b : Nat, some (Except.error (a, b)) = (some (.error e) : lp_R) → 1 ≤ a → a ≤ 6 → b ≤ n → 1 ≤ e.1 ∧ e.1 ≤ 6 ∧ e.2 ≤ n := by
      intro a b h h1 h2 h3
      have : (a, b) = e := by simpa using h
      rw [← this]
      exact ⟨h1, h2, h3⟩
    have two : ∀ (a b p0 : Nat) (g : List lc_O → List lc_O → List lc_O), p0 ≤ n → lpb (lpr T n f a p0 o) (fun p1 c1 => lpb (lpr T n f b p1 o) (fun p2 c2 => some (.ok (p2, g c1 c2)))) = some (.error e) → 1 ≤ e.1 ∧ e.1 ≤ 6 ∧ e.2 ≤ n := by
      intro a b p0 g hp0 h
      rcases lpb_er h with h | ⟨q1, c1, h1, h⟩
      · exact ih a p0 o e hp0 h
      · rcases lpb_er h with h | ⟨q2, c2, h2, h⟩
        · exact ih b q1 o e (lp_len f a p0 o q1 c1 hp0 h1).1 h
        · exact absurd h (by simp)
    unfold lpr at h
    split at h
    · split at h
      · rename_i hc
        have hpl := cc_p hc (by decide)
        split at h
        · exact ee 5 p h (by omega) (by omega) hp
        · rcases lpb_er h with h | ⟨q1, c1, h1, h⟩
          · exact ih 3 (p + 1) (o + 1) e hpl h
          · have l1 := lp_len f 3 (p + 1) (o + 1) q1 c1 hpl h1
            split at h
            · exact absurd h (by simp)
            · exact ee 1 q1 h (by omega) (by omega) l1.1
      · split at h
        · exact absurd h (by simp)
        · split at h
          · rename_i e' hnum
            have : e' = e := by simpa using h
            subst this
            exact numF_er hp hnum
          · exact absurd h (by simp)
    · exact two 0 2 p _ hp h
    · split at h
      · rename_i hc
        exact two 0 2 (p + 1) (fun c1 c2 => c1 ++ (sgK (cc T n p), 0) :: c2) (onl_lt mu_m1 hc) h
      · exact absurd h (by simp)
    · exact two 1 4 p _ hp h
    · split at h
      · rename_i hc
        exact two 1 4 (p + 1) (fun c1 c2 => c1 ++ (sgK (cc T n p), 0) :: c2) (onl_lt ad_m1 hc) h
      · exact absurd h (by simp)
    · split at h
      · rename_i hc
        have hpl := cc_p hc (by decide)
        split at h
        · exact ee 5 p h (by omega) (by omega) hp
        · rcases lpb_er h with h | ⟨q1, c1, h1, h⟩
          · exact ih 8 (p + 1) (o + 1) e hpl h
          · have l1 := lp_len f 8 (p + 1) (o + 1) q1 c1 hpl h1
            split at h
            · exact absurd h (by simp)
            · exact ee 1 q1 h (by omega) (by omega) l1.1
      · split at h
        · rename_i hc
          have hpl := cc_p hc (by decide)
          split at h
          · exact ee 5 p h (by omega) (by omega) hp
          · rcases lpb_er h with h | ⟨q1, c1, h1, h⟩
            · exact ih 5 (p + 1) (o + 1) e hpl h
            · exact absurd h (by simp)
        · rcases lpb_er h with h | ⟨q1, c1, h1, h⟩
          · exact ih 3 p o e hp h
          · have l1 := lp_len f 3 p o q1 c1 hp h1
            split at h
            · rename_i hc
              rcases lpb_er h with h | ⟨q2, c2, h2, h⟩
              · exact ih 3 (q1 + 1) o e (onl_lt cm_m1 hc) h
              · exact absurd h (by simp)
            · exact ee 1 q1 h (by omega) (by omega) l1.1
    · exact two 5 7 p _ hp h
    · split at h
      · rename_i hc
        exact two 5 7 (p + 1) (fun c1 c2 => (11, c1.length + 1) :: (c1 ++ c2)) (cc_p hc (by decide)) h
      · exact absurd h (by simp)
    · exact two 6 9 p _ hp h
    · split at h
      · rename_i hc
        exact two 6 9 (p + 1) (fun c1 c2 => (12, c1.length + 1) :: (c1 ++ c2)) (cc_p hc (by decide)) h
      · exact absurd h (by simp)
    · exact absurd h (by simp)
def lp_w (m : Nat) : Nat := match m with
  | 0 => 1
  | 1 => 2
  | 2 => 1
  | 3 => 3
  | 4 => 1
  | 5 => 4
  | 6 => 5
  | 7 => 1
  | 8 => 6
  | _ => 1
theorem lpb_some {r : lp_R} {k : Nat → List lc_O → lp_R} (h1 : ∃ x, r = some x) (h2 : ∀ p c, r = some (.ok (p, c)) → ∃ y, k p c = some y) : ∃ y, lpb r k = some y := by
  obtain ⟨x, hx⟩ := h1
  subst hx
  unfold lpb
  cases x with
  | error e => exact ⟨_, rfl⟩
  | ok y =>
    obtain ⟨p, c⟩ := y
    exact h2 p c rfl
/-- enough breath for every text -/
theorem lp_tot {T : Nat → Int32} {n : Nat} : ∀ (f m p o : Nat), m < 10 → p ≤ n → 8 * (n - p) + lp_w m ≤ f → ∃ r, lpr T n f m p o = some r := by
  intro f
  induction f with
  | zero =>
    intro m p o hm hp h
    have : 1 ≤ lp_w m := by
      unfold lp_w
      split <;> omega
    omega
  | succ f ih =>
    intro m p o hm hp h
    have two : ∀ (a b p0 : Nat) (g : List lc_O → List lc_O → List lc_O), a < 10 → b < 10 → p0 ≤ n → (a = 0 ∨ a = 1 ∨ a = 3 ∨ a = 5 ∨ a = 6 ∨ a = 8) → lp_w b = 1 → 8 * (n - p0) + lp_w a ≤ f → ∃ r, lpb (lpr T n f a p0 o) (fun p1 c1 => lpb (lpr T n f b p1 o) (fun p2 c2 => some (.ok (p2, g c1 c2)))) = some r := by
      intro a b p0 g ha hb hp0 ha2 hb2 hf
      refine lpb_some (ih a p0 o ha hp0 hf) (fun p1 c1 h1 => lpb_some ?_ (fun p2 c2 _ => ⟨_, rfl⟩))
      have l1 := lp_len f a p0 o p1 c1 hp0 h1
      have l2 := l1.2.2 ha2
      have : 1 ≤ lp_w a := by
        unfold lp_w
        split <;> omega
      refine ih b p1 o hb l1.1 ?_
      omega
    unfold lpr
    split
    · have h : 8 * (n - p) + 1 ≤ f + 1 := h
      split
      · rename_i hc
        have hpl := cc_p hc (by decide)
        split
        · exact ⟨_, rfl⟩
        · refine lpb_some (ih 3 (p + 1) (o + 1) (by omega) hpl (by show 8 * (n - (p + 1)) + 3 ≤ f; omega)) (fun p1 c1 _ => ?_)
          split
          · exact ⟨_, rfl⟩
          · exact ⟨_, rfl⟩
      · split
        · exact ⟨_, rfl⟩
        · exact ⟨_, rfl⟩
    · have h : 8 * (n - p) + 2 ≤ f + 1 := h
      exact two 0 2 p _ (by omega) (by omega) hp (by omega) rfl (by show 8 * (n - p) + 1 ≤ f; omega)
    · have h : 8 * (n - p) + 1 ≤ f + 1 := h
      split
      · rename_i hc
        have hpl := onl_lt mu_m1 hc
        exact two 0 2 (p + 1) (fun c1 c2 => c1 ++ (sgK (cc T n p), 0) :: c2) (by omega) (by omega) hpl (by omega) rfl (by show 8 * (n - (p + 1)) + 1 ≤ f; omega)
      · exact ⟨_, rfl⟩
    · have h : 8 * (n - p) + 3 ≤ f + 1 := h
      exact two 1 4 p _ (by omega) (by omega) hp (by omega) rfl (by show 8 * (n - p) + 2 ≤ f; omega)
    · have h : 8 * (n - p) + 1 ≤ f + 1 := h
      split
      · rename_i hc
        have hpl := onl_lt ad_m1 hc
        exact two 1 4 (p + 1) (fun c1 c2 => c1 ++ (sgK (cc T n p), 0) :: c2) (by omega) (by omega) hpl (by omega) rfl (by show 8 * (n - (p + 1)) + 2 ≤ f; omega)
      · exact ⟨_, rfl⟩
    · have h : 8 * (n - p) + 4 ≤ f + 1 := h
      split
      · rename_i hc
        have hpl := cc_p hc (by decide)
        split
        · exact ⟨_, rfl⟩
        · refine lpb_some (ih 8 (p + 1) (o + 1) (by omega) hpl (by show 8 * (n - (p + 1)) + 6 ≤ f; omega)) (fun p1 c1 _ => ?_)
          split
          · exact ⟨_, rfl⟩
          · exact ⟨_, rfl⟩
      · split
        · rename_i hc
          have hpl := cc_p hc (by decide)
          split
          · exact ⟨_, rfl⟩
          · exact lpb_some (ih 5 (p + 1) (o + 1) (by omega) hpl (by show 8 * (n - (p + 1)) + 4 ≤ f; omega)) (fun p1 c1 _ => ⟨_, rfl⟩)
        · refine lpb_some (ih 3 p o (by omega) hp (by show 8 * (n - p) + 3 ≤ f; omega)) (fun p1 c1 h1 => ?_)
          have l1 := lp_len f 3 p o p1 c1 hp h1
          split
          · rename_i hc
            have hpl := onl_lt cm_m1 hc
            exact lpb_some (ih 3 (p1 + 1) o (by omega) hpl (by show 8 * (n - (p1 + 1)) + 3 ≤ f; omega)) (fun p2 c2 _ => ⟨_, rfl⟩)
          · exact ⟨_, rfl⟩
    · have h : 8 * (n - p) + 5 ≤ f + 1 := h
      exact two 5 7 p _ (by omega) (by omega) hp (by omega) rfl (by show 8 * (n - p) + 4 ≤ f; omega)
    · have h : 8 * (n - p) + 1 ≤ f + 1 := h
      split
      · rename_i hc
        have hpl := cc_p hc (by decide)
        exact two 5 7 (p + 1) (fun c1 c2 => (11, c1.length + 1) :: (c1 ++ c2)) (by omega) (by omega) hpl (by omega) rfl (by show 8 * (n - (p + 1)) + 4 ≤ f; omega)
      · exact ⟨_, rfl⟩
    · have h : 8 * (n - p) + 6 ≤ f + 1 := h
      exact two 6 9 p _ (by omega) (by omega) hp (by omega) rfl (by show 8 * (n - p) + 5 ≤ f; omega)
    · have h : 8 * (n - p) + 1 ≤ f + 1 := h
      split
      · rename_i hc
        have hpl := cc_p hc (by decide)
        exact two 6 9 (p + 1) (fun c1 c2 => (12, c1.length + 1) :: (c1 ++ c2)) (by omega) (by omega) hpl (by omega) rfl (by show 8 * (n - (p + 1)) + 5 ≤ f; omega)
      · exact ⟨_, rfl⟩
    · exfalso
      rcases (show m = 0 ∨ m = 1 ∨ m = 2 ∨ m = 3 ∨ m = 4 ∨ m = 5 ∨ m = 6 ∨ m = 7 ∨ m = 8 ∨ m = 9 by omega) with q | q | q | q | q | q | q | q | q | q
      all_goals contradiction
