/-! ===== what holds between the law's two objects, between calls ===== -/
/-- both kings, the breath, the lot: cell of the Meeting, of its kings, of the reference's row -/
def iv_meet (v : am_V) (c a b r : Nat) : Prop := (v a 0 = v r 0 ∧ v b 0 = v r 1 ∧ v a 1 = v r 2 ∧ v b 1 = v r 3 ∧ v a 2 = v r 4 ∧ v b 2 = v r 5) ∧ (v a 3 = v r 6 ∧ v b 3 = v r 7 ∧ v a 4 = v r 8 ∧ v b 4 = v r 9 ∧ v a 5 = v r 10 ∧ v b 5 = v r 11) ∧ v c 2 = v r 12 ∧ v c 3 = v r 13
def iv_in (x lo hi : Int32) : Prop := lo ≤ x ∧ x ≤ hi
def iv_bit (x : Int32) : Prop := x = 0 ∨ x = 1
/-- what the row's numbers are -/
def iv_rng (v : am_V) (r : Nat) : Prop := (iv_in (v r 0) 0 999 ∧ iv_in (v r 1) 0 999 ∧ iv_in (v r 2) 0 90 ∧ iv_in (v r 3) 0 90 ∧ iv_in (v r 4) 0 9999 ∧ iv_in (v r 5) 0 9999) ∧ (iv_bit (v r 6) ∧ iv_bit (v r 7) ∧ iv_bit (v r 8) ∧ iv_bit (v r 9) ∧ iv_bit (v r 10) ∧ iv_bit (v r 11)) ∧ iv_in (v r 12) 0 9999 ∧ iv_in (v r 13) 0 65535
def iv_misc (v : am_V) : Prop := v 0 11 = v 62 62 ∧ iv_bit (v 0 11) ∧ v 0 12 = v 62 3 ∧ v 0 13 = v 62 4 ∧ iv_in (v 62 3) 0 99 ∧ iv_in (v 62 4) 0 90
/-- the tape: how many, which bytes -/
def iv_tapeF (a b : Int32) (f g : Nat → Int32) : Prop := ∃ n : Nat, n ≤ 260 ∧ a = nI n ∧ b = nI n ∧ ∀ i, i < n → f i = g i &&& 255
/-- a piece of THE LAW's code: its kind (0 number, 1 letter, 2 + 3 - 4 * 5 / 6 % 7 < 8 > 9 = 10 ! 11 & 12 |), what goes with it (of & and |: by how many pieces they go on) -/
abbrev lc_O : Type := Nat × Nat
def lc_sg (k : Nat) : Nat := match k with
  | 0 => 35
  | 1 => 64
  | 2 => 43
  | 3 => 45
  | 4 => 42
  | 5 => 47
  | 6 => 37
  | 7 => 60
  | 8 => 62
  | 9 => 61
  | 10 => 33
  | 11 => 38
  | _ => 124
def lc_tg (i : Nat) (o : lc_O) : Nat := if 11 ≤ o.1 then i + o.2 else o.2
/-- how the class writes it, how the reference does -/
def lc_C (i : Nat) (o : lc_O) : Int32 := nI (lc_tg i o * 256 + lc_sg o.1)
def lc_R (i : Nat) (o : lc_O) : Int32 := nI (o.1 * 1048576 + lc_tg i o)
def lc_join (k : Nat) (x y : Int32) : Int32 := match k with
  | 2 => x + y
  | 3 => x - y
  | 4 => x * y
  | 5 => x / y
  | 6 => am_rem x y
  | 7 => if x < y then 1 else 0
  | 8 => if y < x then 1 else 0
  | _ => if x = y then 1 else 0
/-- what code comes to; none where it would not go well -/
def lc_ev (F : Nat → Int32) (c : List lc_O) : Nat → Nat → List Int32 → Option Int32
  | 0, _, _ => none
  | n + 1, i, s => match c[i]? with
    | none => match s with
      | [x] => some x
      | _ => none
    | some (k, a) => if 1048576 ≤ a then none
      else if k = 0 then (if s.length < 32 then lc_ev F c n (i + 1) (nI a :: s) else none)
      else if k = 1 then (if s.length < 32 ∧ a < 10 then lc_ev F c n (i + 1) (F a :: s) else none)
      else match s with
        | [] => none
        | x :: r => if k = 10 then lc_ev F c n (i + 1) ((1 - x) :: r)
          else if k = 11 ∨ k = 12 then (if (x = 0 ∨ x = 1) ∧ 1 ≤ a ∧ i + a ≤ c.length then (if x = (if k = 12 then 1 else 0) then lc_ev F c n (i + a) (x :: r) else lc_ev F c n (i + 1) r) else none)
          else match r with
            | [] => none
            | y :: r2 => if 2 ≤ k ∧ k ≤ 9 then (if (k = 5 ∨ k = 6) ∧ x = 0 then some 0 else lc_ev F c n (i + 1) (lc_join k y x :: r2)) else none
def lc_val (F : Nat → Int32) (c : List lc_O) : Option Int32 := lc_ev F c (c.length + 1) 0 []
def lc_okA (c : List lc_O) : Prop := ∀ F, ∃ x, lc_val F c = some x
def lc_okT (c : List lc_O) : Prop := ∀ F, lc_val F c = some 0 ∨ lc_val F c = some 1
/-- a rule: its letter, the code of its amount, of its test -/
abbrev lc_U : Type := Nat × List lc_O × List lc_O
def lc_sC (code : Nat → Int32) (z b : Nat) (c : List lc_O) : Prop := b + c.length < z ∧ (∀ i o, c[i]? = some o → code (b + i) = lc_C (b + i) o) ∧ code (b + c.length) = 59
def lc_sR (codes : Nat → Int32) (b e : Nat) (c : List lc_O) : Prop := e = b + c.length ∧ e ≤ 240 ∧ ∀ i o, c[i]? = some o → codes (b + i) = lc_R (b + i) o
def lc_isA (l : Nat) : Prop := l = 102 ∨ l = 100 ∨ l = 117
def lc_two (us : List lc_U) (z : Nat) (code letters amountAt testAt codes clauseOf codeFrom codeHalf codeTo : Nat → Int32) : Prop := ∀ q l A T, us[q]? = some (l, A, T) → l < 256 ∧ letters q = nI l ∧ clauseOf q = nI l ∧ ∃ ca ct ra rt re : Nat, (amountAt q = nI ca ∧ testAt q = nI ct ∧ codeFrom q = nI ra ∧ codeHalf q = nI rt ∧ codeTo q = nI re) ∧ (lc_sC code z ct T ∧ lc_sR codes rt re T ∧ lc_okT T) ∧ (lc_isA l → lc_sC code z ca A ∧ lc_sR codes ra rt A ∧ lc_okA A)
/-- THE LAW, on both sides -/
def iv_lawF (rules size : Int32) (code letters amountAt testAt : Nat → Int32) (clauses : Int32) (codes clauseOf codeFrom codeHalf codeTo : Nat → Int32) : Prop := ∃ (us : List lc_U) (z : Nat), (us.length ≤ 16 ∧ z ≤ 240) ∧ rules = nI us.length ∧ size = nI z ∧ clauses = nI us.length ∧ lc_two us z code letters amountAt testAt codes clauseOf codeFrom codeHalf codeTo
/-- a line of a TREATY: its acts, whether at once -/
abbrev tr_L : Type := Nat × Nat × Bool
/-- at once: in every row of sets that the lines hold together -/
def tr_eq (ls : List tr_L) (a b : Nat) : Prop := ∀ S : Nat → Prop, (∀ x y, (x, y, true) ∈ ls → (S x ↔ S y)) → S a → S b
/-- ahead: by every order that the lines ask for -/
def tr_ah (ls : List tr_L) (b a : Nat) : Prop := ∀ R : Nat → Nat → Prop, (∀ x y, (x, y, false) ∈ ls → R x y) → (∀ x y z, (x, y, true) ∈ ls → (R x z ↔ R y z) ∧ (R z x ↔ R z y)) → (∀ x y z, R x y → R y z → R x z) → R b a
def tr_con (ls : List tr_L) : Prop := ∃ a, tr_ah ls a a
/-- the moments -/
def tr_mo (ls : List tr_L) (M : Nat → Nat) : Prop := ∀ a, a < 16 → (1 ≤ M a ∧ M a ≤ 16) ∧ (∀ b, b < 16 → tr_ah ls b a → M b < M a) ∧ (M a = 1 ∨ ∃ b, b < 16 ∧ tr_ah ls b a ∧ M a = M b + 1)
/-- a row of bits: the acts for which S holds -/
def bb (x : Int32) (i : Nat) : Bool := x.toBitVec.getLsbD i
def tr_set (x : Int32) (S : Nat → Prop) : Prop := ∀ b, b < 32 → (bb x b = true ↔ (b < 16 ∧ S b))
def tr_nm (ls : List tr_L) (b : Nat) : Prop := ∃ x y e, (x, y, e) ∈ ls ∧ (b = x ∨ b = y)
def tr_cls (ls : List tr_L) (contr : Int32) (atOnce ahead moment : Nat → Int32) : Prop := (contr = -1 ∧ ¬ tr_con ls ∧ (ls = [] ∨ ((∀ a, a < 16 → tr_set (atOnce a) (tr_eq ls a) ∧ tr_set (ahead a) (fun b => tr_ah ls b a)) ∧ ∃ M : Nat → Nat, (∀ a, a < 16 → moment a = nI (M a)) ∧ tr_mo ls M))) ∨ (∃ k : Nat, k < ls.length ∧ contr = nI k ∧ tr_con (ls.take (k + 1)) ∧ ¬ tr_con (ls.take k))
/-- a TREATY, on both sides -/
def iv_treF (lines named contr : Int32) (atOnce ahead moment : Nat → Int32) (tl : Int32) (lineA lineB isAtOnce : Nat → Int32) : Prop := ∃ ls : List tr_L, ls.length ≤ 24 ∧ lines = nI ls.length ∧ tl = nI ls.length ∧ (∀ q a b e, ls[q]? = some (a, b, e) → a < 16 ∧ b < 16 ∧ lineA q = nI a ∧ lineB q = nI b ∧ isAtOnce q = (if e = true then 1 else 0)) ∧ tr_set named (tr_nm ls) ∧ tr_cls ls contr atOnce ahead moment
def iv_tape (v : am_V) : Prop := iv_tapeF (v 1 1) (v 62 6) (v 2) (v 66)
def iv_law (v : am_V) : Prop := iv_lawF (v 3 7) (v 3 6) (v 4) (v 5) (v 6) (v 7) (v 62 15) (v 73) (v 74) (v 75) (v 76) (v 77)
def iv_tre (v : am_V) : Prop := iv_treF (v 22 3) (v 22 4) (v 22 5) (v 23) (v 24) (v 25) (v 62 48) (v 88) (v 89) (v 93)
def INV (v : am_V) : Prop := (iv_meet v 30 31 32 63 ∧ iv_rng v 63) ∧ (v 0 11 = 1 → iv_meet v 36 37 38 65 ∧ iv_rng v 65) ∧ iv_misc v ∧ iv_tape v ∧ iv_law v ∧ iv_tre v
/-- the constants: the script, the row WEIGHT -/
def am_kc (L : Nat) (xs : Nat → Int32) : am_K := fun k => match Nat.beq k 1000 with
  | true => some (L, xs)
  | false => match Nat.beq k 1001 with
    | true => some (9, fun j => match j with
      | 0 => 1
      | 1 => 3
      | 2 => 9
      | 3 => 27
      | 4 => 81
      | 5 => 243
      | 6 => 729
      | 7 => 2187
      | _ => 6561)
    | false => none
/-- the texts of the tables, by their words' places: indexOf -/
def am_sfind (c : Int32) : Int32 → List Int32 → Int32
  | _, [] => -1
  | i, a :: l => if a = c then i else am_sfind c (i + 1) l
abbrev am_strs : List (Nat × List Int32) := am_TX
def am_sat : List (Nat × List Int32) → Nat → Option (List Int32)
  | [], _ => none
  | a :: l, k => match Nat.beq k a.1 with
    | true => some a.2
    | false => am_sat l k
def am_idx : am_I := fun k => match am_sat am_strs k with
  | some l => some (fun c => am_sfind c 0 l)
  | none => none
/-- a call of both: the same answer, and what holds holds on -/
def am_pair (L : Nat) (xs : Nat → Int32) (a b : Nat) (as : List Value) : Prop := ∀ (d : Nat) (v : am_V) (w : am_X) (Q : Option Value → am_H → Prop), INV v → (∀ (r : Int32) (v1 : am_V) (w1 : am_X), (∀ Q2 : Option Value → am_H → Prop, (∀ (v2 : am_V) (w2 : am_X), INV v2 → Q2 (some (.int r)) (am_sh, v2, w2)) → am_run (am_kc L xs) am_idx am_m (d + 50) b (.ref 62 :: as) (am_sh, v1, w1) 0 0 Q2) → Q (some (.int r)) (am_sh, v1, w1)) → am_run (am_kc L xs) am_idx am_m (d + 50) a (.ref 0 :: as) (am_sh, v, w) 0 0 Q
def am_pairL (L : Nat) (xs : Nat → Int32) (a b : Nat) (as : List Value) : Prop := ∀ (d : Nat) (v : am_V) (w : am_X) (Q : Option Value → am_H → Prop), INV v → (∀ (r : Int64) (v1 : am_V) (w1 : am_X), (∀ Q2 : Option Value → am_H → Prop, (∀ (v2 : am_V) (w2 : am_X), INV v2 → Q2 (some (.long r)) (am_sh, v2, w2)) → am_run (am_kc L xs) am_idx am_m (d + 50) b (.ref 62 :: as) (am_sh, v1, w1) 0 0 Q2) → Q (some (.long r)) (am_sh, v1, w1)) → am_run (am_kc L xs) am_idx am_m (d + 50) a (.ref 0 :: as) (am_sh, v, w) 0 0 Q
