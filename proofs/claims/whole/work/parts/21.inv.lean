/-! ===== what holds between the law's two objects, between calls ===== -/
/-- both kings, the breath, the lot: cell of the Meeting, of its kings, of the reference's row -/
def iv_meet (v : am_V) (c a b r : Nat) : Prop := (v a 0 = v r 0 ∧ v b 0 = v r 1 ∧ v a 1 = v r 2 ∧ v b 1 = v r 3 ∧ v a 2 = v r 4 ∧ v b 2 = v r 5) ∧ (v a 3 = v r 6 ∧ v b 3 = v r 7 ∧ v a 4 = v r 8 ∧ v b 4 = v r 9 ∧ v a 5 = v r 10 ∧ v b 5 = v r 11) ∧ v c 2 = v r 12 ∧ v c 3 = v r 13
def iv_in (x lo hi : Int32) : Prop := lo ≤ x ∧ x ≤ hi
def iv_bit (x : Int32) : Prop := x = 0 ∨ x = 1
/-- what the row's numbers are -/
def iv_rng (v : am_V) (r : Nat) : Prop := (iv_in (v r 0) 0 999 ∧ iv_in (v r 1) 0 999 ∧ iv_in (v r 2) 0 90 ∧ iv_in (v r 3) 0 90 ∧ iv_in (v r 4) 0 9999 ∧ iv_in (v r 5) 0 9999) ∧ (iv_bit (v r 6) ∧ iv_bit (v r 7) ∧ iv_bit (v r 8) ∧ iv_bit (v r 9) ∧ iv_bit (v r 10) ∧ iv_bit (v r 11)) ∧ iv_in (v r 12) 0 9999 ∧ iv_in (v r 13) 0 65535
def iv_misc (v : am_V) : Prop := v 0 11 = v 62 62 ∧ iv_bit (v 0 11) ∧ v 0 12 = v 62 3 ∧ v 0 13 = v 62 4 ∧ iv_in (v 62 3) 0 99 ∧ iv_in (v 62 4) 0 90
/-- the tape: how many, which bytes -/
def iv_tapeF (a b : Int32) (f g : Nat → Int32) : Prop := ∃ n : Nat, n ≤ 260 ∧ a = nI n ∧ b = nI n ∧ ∀ i, i < n → f i = g i &&& 255
/-- THE LAW, on both sides (to be filled) -/
def iv_lawF (rules size : Int32) (code letters amountAt testAt : Nat → Int32) (clauses : Int32) (codes clauseOf codeFrom codeHalf codeTo : Nat → Int32) : Prop := ∃ n : Nat, n ≤ 16 ∧ rules = nI n ∧ clauses = nI n
/-- a TREATY, on both sides (to be filled) -/
def iv_treF (lines named contr : Int32) (atOnce ahead moment : Nat → Int32) (tl : Int32) (lineA lineB isAtOnce : Nat → Int32) : Prop := ∃ n : Nat, n ≤ 24 ∧ lines = nI n ∧ tl = nI n
def iv_tape (v : am_V) : Prop := iv_tapeF (v 1 1) (v 62 6) (v 2) (v 66)
def iv_law (v : am_V) : Prop := iv_lawF (v 3 7) (v 3 6) (v 4) (v 5) (v 6) (v 7) (v 62 15) (v 73) (v 74) (v 75) (v 76) (v 77)
def iv_tre (v : am_V) : Prop := iv_treF (v 22 3) (v 22 4) (v 22 5) (v 23) (v 24) (v 25) (v 62 48) (v 88) (v 89) (v 93)
def INV (v : am_V) : Prop := (iv_meet v 30 31 32 63 ∧ iv_rng v 63) ∧ (v 0 11 = 1 → iv_meet v 36 37 38 65 ∧ iv_rng v 65) ∧ iv_misc v ∧ iv_tape v ∧ iv_law v ∧ iv_tre v
/-- the constants: the script, the row WEIGHT -/
def am_kc (L : Nat) (xs : Nat → Int32) : am_K := fun k => match Nat.beq k 1000 with
  | true => some (L, xs)
  | false => match Nat.beq k 1001 with
    | true => some (9, fun j => match j with
      | 0 => 1
      | 1 => 3
      | 2 => 9
      | 3 => 27
      | 4 => 81
      | 5 => 243
      | 6 => 729
      | 7 => 2187
      | _ => 6561)
    | false => none
/-- the texts of the tables, by their words' places: indexOf -/
def am_sfind (c : Int32) : Int32 → List Int32 → Int32
  | _, [] => -1
  | i, a :: l => if a = c then i else am_sfind c (i + 1) l
def am_strs : List (Nat × List Int32) := [
  (2537, [102, 100, 117, 104, 120]),
  (2647, [102, 100, 117]),
  (2703, [40]),
  (2736, [41]),
  (2735, [124]),
  (2730, [38]),
  (2724, [33]),
  (2729, [60, 62, 61]),
  (2702, [43, 45]),
  (2701, [42, 47, 37]),
  (2675, [91]),
  (2686, [107, 112, 113, 98, 99, 111, 118, 97, 116, 114]),
  (2685, [93]),
  (2684, [40, 91, 33]),
  (2740, [48, 49, 42]),
  (2753, [102, 98, 104, 111, 97]),
  (2774, [59]),
  (2698, [48, 49, 50, 51, 52, 53, 54, 55, 56, 57]),
  (2760, [97, 98, 99, 100, 101, 102, 103, 104, 105, 106, 107, 108, 109, 110, 111, 112]),
  (2773, [60, 61])]
def am_sat : List (Nat × List Int32) → Nat → Option (List Int32)
  | [], _ => none
  | a :: l, k => match Nat.beq k a.1 with
    | true => some a.2
    | false => am_sat l k
def am_idx : am_I := fun k => match am_sat am_strs k with
  | some l => some (fun c => am_sfind c 0 l)
  | none => none
/-- a call of both: the same answer, and what holds holds on -/
def am_pair (L : Nat) (xs : Nat → Int32) (a b : Nat) (as : List Value) : Prop := ∀ (d : Nat) (v : am_V) (w : am_X) (Q : Option Value → am_H → Prop), INV v → (∀ (r : Int32) (v1 : am_V) (w1 : am_X), (∀ Q2 : Option Value → am_H → Prop, (∀ (v2 : am_V) (w2 : am_X), INV v2 → Q2 (some (.int r)) (am_sh, v2, w2)) → am_run (am_kc L xs) am_idx am_m (d + 30) b (.ref 62 :: as) (am_sh, v1, w1) 0 0 Q2) → Q (some (.int r)) (am_sh, v1, w1)) → am_run (am_kc L xs) am_idx am_m (d + 30) a (.ref 0 :: as) (am_sh, v, w) 0 0 Q
def am_pairL (L : Nat) (xs : Nat → Int32) (a b : Nat) (as : List Value) : Prop := ∀ (d : Nat) (v : am_V) (w : am_X) (Q : Option Value → am_H → Prop), INV v → (∀ (r : Int64) (v1 : am_V) (w1 : am_X), (∀ Q2 : Option Value → am_H → Prop, (∀ (v2 : am_V) (w2 : am_X), INV v2 → Q2 (some (.long r)) (am_sh, v2, w2)) → am_run (am_kc L xs) am_idx am_m (d + 30) b (.ref 62 :: as) (am_sh, v1, w1) 0 0 Q2) → Q (some (.long r)) (am_sh, v1, w1)) → am_run (am_kc L xs) am_idx am_m (d + 30) a (.ref 0 :: as) (am_sh, v, w) 0 0 Q
