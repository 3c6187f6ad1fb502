/-! ===== THE SMALL MACHINE: configurations over cells that are numbered; one step as a predicate ===== -/
/-- an instruction: its place, itself, resolved numbers, a number that it carries, places of its words -/
abbrev am_E : Type := Nat × Instr × List Nat × Int32 × List Nat
/-- a cell's form: its kind (class number; 100 ints, 101 booleans, 102 bytes, 103 longs, 104 rows of ints), its length, what its reference places hold -/
abbrev am_S : Type := Nat × Nat × List (Option Nat)
abbrev am_V : Type := Nat → Nat → Int32
abbrev am_X : Type := Nat → Nat → Int64
abbrev am_H : Type := List am_S × am_V × am_X
abbrev am_L : Type := List (Option Value)
abbrev am_C : Type := List am_E × am_L × List Value × am_H × Nat × Nat
/-- constants that lie there before: an array of ints by its number -/
abbrev am_K : Type := Nat → Option (Nat × (Nat → Int32))
def am_get : am_L → Nat → Option Value
  | [], _ => none
  | a :: _, 0 => a
  | _ :: as, n + 1 => am_get as n
def am_isL : Option Value → Bool
  | some (.long _) => true
  | some (.double _) => true
  | _ => false
def am_set : am_L → Nat → Value → Option am_L
  | [], _, _ => none
  | _ :: as, 0, v => some (some v :: as)
  | a :: as, n + 1, v => match Nat.beq n 0 && am_isL a with
    | true => none
    | false => match am_set as n v with
      | none => none
      | some r => some (a :: r)
def am_setL : am_L → Nat → Value → Option am_L
  | [], _, _ => none
  | _ :: as, 0, v => match as with
    | [] => none
    | _ :: r => some (some v :: none :: r)
  | a :: as, n + 1, v => match Nat.beq n 0 && am_isL a with
    | true => none
    | false => match am_setL as n v with
      | none => none
      | some r => some (a :: r)
def am_at : List am_S → Nat → Option am_S
  | [], _ => none
  | a :: _, 0 => some a
  | _ :: as, n + 1 => am_at as n
def am_nth : List (Option Nat) → Nat → Option (Option Nat)
  | [], _ => none
  | a :: _, 0 => some a
  | _ :: as, n + 1 => am_nth as n
def am_mem (k : Nat) : List Nat → Bool
  | [] => false
  | a :: as => match Nat.beq k a with
    | true => true
    | false => am_mem k as
/-- in a list of pairs: what stands behind the first that is k -/
def am_pick (k : Nat) : List Nat → Option Nat
  | a :: b :: as => match Nat.beq k a with
    | true => some b
    | false => am_pick k as
  | _ => none
def am_pop : Nat → List Value → List Value → Option (List Value × List Value)
  | 0, acc, st => some (acc, st)
  | n + 1, acc, v :: st => am_pop n (v :: acc) st
  | _ + 1, _, [] => none
def am_push : Option Value → List Value → List Value
  | none, st => st
  | some v, st => v :: st
def am_up (v : am_V) (k j : Nat) (x : Int32) : am_V := fun a b => match Nat.beq a k && Nat.beq b j with
  | true => x
  | false => v a b
def am_upX (v : am_X) (k j : Nat) (x : Int64) : am_X := fun a b => match Nat.beq a k && Nat.beq b j with
  | true => x
  | false => v a b
/-- a row copied over another -/
def am_cpy (v : am_V) (k k2 sp dp n : Nat) : am_V := fun a b => match Nat.beq a k2 && (Nat.ble dp b && Nat.blt b (dp + n)) with
  | true => v k (sp + (b - dp))
  | false => v a b
def am_setR : List (Option Nat) → Nat → Option Nat → List (Option Nat)
  | [], _, _ => []
  | _ :: as, 0, q => q :: as
  | a :: as, n + 1, q => a :: am_setR as n q
def am_setS : List am_S → Nat → am_S → List am_S
  | [], _, _ => []
  | _ :: as, 0, q => q :: as
  | a :: as, n + 1, q => a :: am_setS as n q
def am_ws : List Value → Nat
  | [] => 0
  | v :: st => v.category + am_ws st
/-- references of a list are of cells that stand, or of constants -/
def am_rv (n : Nat) : Value → Bool
  | .ref k => Nat.blt k n || Nat.ble 1000 k
  | _ => true
def am_rl (n : Nat) : am_L → Bool
  | [] => true
  | some v :: l => am_rv n v && am_rl n l
  | none :: l => am_rl n l
def am_rs (n : Nat) : List Value → Bool
  | [] => true
  | v :: l => am_rv n v && am_rs n l
def am_rq (n : Nat) : List (Option Nat) → Bool
  | [] => true
  | some k :: l => (Nat.blt k n || Nat.ble 1000 k) && am_rq n l
  | none :: l => am_rq n l
def am_rh (n : Nat) : List am_S → Bool
  | [] => true
  | a :: l => am_rq n a.2.2 && am_rh n l
def am_nones : Nat → List (Option Nat)
  | 0 => []
  | n + 1 => none :: am_nones n
def am_rows (b : Nat) : Nat → List (Option Nat)
  | 0 => []
  | n + 1 => some b :: am_rows (b + 1) n
def am_reps : Nat → am_S → List am_S
  | 0, _ => []
  | n + 1, s => s :: am_reps n s
abbrev am_T : Type := Nat → List Value → am_H → Nat → Nat → (Option Value → am_H → Prop) → Prop
/-- what the texts' indexOf answers: by number of the text -/
abbrev am_I : Type := Nat → Option (Int32 → Int32)
def am_br (cd : Jvm.ClassFile.Cond) (x y : Int32) (A B : Prop) : Prop := match cd with
  | .eq => (x = y → A) ∧ (¬ x = y → B)
  | .ne => (¬ x = y → A) ∧ (x = y → B)
  | .lt => (x < y → A) ∧ (¬ x < y → B)
  | .ge => (y ≤ x → A) ∧ (¬ y ≤ x → B)
  | .gt => (y < x → A) ∧ (¬ y < x → B)
  | .le => (x ≤ y → A) ∧ (¬ x ≤ y → B)
/-- a table switch: the cases in order, from lo on -/
def am_tab (x : Int32) (f : Nat → Prop) : Int32 → List Nat → Prop
  | _, [] => True
  | lo, t :: ts => (x = lo → f t) ∧ am_tab x f (lo + 1) ts
/-- a lookup switch: pairs of a key (plus 2^31) and a target -/
def am_look (x : Int32) (f : Nat → Prop) (d : Nat) : List Nat → Prop
  | k :: t :: ts => (x = Int32.ofNat k → f t) ∧ (¬ x = Int32.ofNat k → am_look x f d ts)
  | _ => f d
def am_ent : Nat → List Value → am_L
  | 0, _ => []
  | n + 1, [] => none :: am_ent n []
  | n + 1, v :: vs => match am_isL (some v) with
    | true => some v :: (match n with
      | 0 => []
      | k + 1 => none :: am_ent k vs)
    | false => some v :: am_ent n vs
/-- a primitive of the JDK -/
def am_prim (I : am_I) (pk : Nat) (st : List Value) (hp : am_H) (g : List Value → am_H → Prop) : Prop := match pk with
  | 0 => match st with
    | .ref _ :: r => g r hp
    | _ => False
  | 1 => match st with
    | .int y :: .int x :: r => g (.int (if x < y then y else x) :: r) hp
    | _ => False
  | 2 => match st with
    | .int y :: .int x :: r => g (.int (if y < x then y else x) :: r) hp
    | _ => False
  | 3 => match st with
    | .int x :: r => g (.int (if 0 ≤ x then x else 0 - x) :: r) hp
    | _ => False
  | 4 => match st with
    | .int n :: .int dp :: .ref k2 :: .int sp :: .ref k :: r => match am_at hp.1 k with
      | some (100, n0, _) => match am_at hp.1 k2 with
        | some (100, n1, _) => (¬ sp < 0 ∧ ¬ dp < 0 ∧ ¬ n < 0 ∧ sp.toNatClampNeg + n.toNatClampNeg ≤ n0 ∧ dp.toNatClampNeg + n.toNatClampNeg ≤ n1) ∧ g r (hp.1, am_cpy hp.2.1 k k2 sp.toNatClampNeg dp.toNatClampNeg n.toNatClampNeg, hp.2.2)
        | _ => False
      | _ => False
    | _ => False
  | _ => match st with
    | .int c :: .ref k :: r => match I k with
      | some f => (0 ≤ c ∧ c < 65536) ∧ g (.int (f c) :: r) hp
      | none => False
    | _ => False
/-- the remainder as the machine reckons it -/
def am_rem (x y : Int32) : Int32 := x - x / y * y
/-- one step: what must hold of a configuration, P of those that follow, Q at a return -/
def am_step (K : am_K) (I : am_I) (Tc : am_T) (cd : List am_E) (mc ms : Nat) (Q : Option Value → am_H → Prop) (P : am_C → Prop) (c : am_C) : Prop := match c with
  | ([], _) => False
  | ((_, ins, rs, im, _) :: is, ls, st, hp, nc, ns) => match ins with
    | .iconst _ => P (is, ls, .int im :: st, hp, nc, ns)
    | .bipush _ => P (is, ls, .int im :: st, hp, nc, ns)
    | .sipush _ => P (is, ls, .int im :: st, hp, nc, ns)
    | .ldc _ => match rs with
      | [] => P (is, ls, .int im :: st, hp, nc, ns)
      | k :: _ => P (is, ls, .ref k :: st, hp, nc, ns)
    | .ldc_w _ => P (is, ls, .int im :: st, hp, nc, ns)
    | .ldc2_w _ => P (is, ls, .long (-1) :: st, hp, nc, ns)
    | .lconst _ => P (is, ls, .long im.toInt64 :: st, hp, nc, ns)
    | .iload_n _ => match rs with
      | [i] => match am_get ls i with
        | some (.int x) => P (is, ls, .int x :: st, hp, nc, ns)
        | _ => False
      | _ => False
    | .iload _ => match rs with
      | [i] => match am_get ls i with
        | some (.int x) => P (is, ls, .int x :: st, hp, nc, ns)
        | _ => False
      | _ => False
    | .aload_n _ => match rs with
      | [i] => match am_get ls i with
        | some (.ref x) => P (is, ls, .ref x :: st, hp, nc, ns)
        | _ => False
      | _ => False
    | .aload _ => match rs with
      | [i] => match am_get ls i with
        | some (.ref x) => P (is, ls, .ref x :: st, hp, nc, ns)
        | _ => False
      | _ => False
    | .lload_n _ => match rs with
      | [i] => match am_get ls i with
        | some (.long x) => P (is, ls, .long x :: st, hp, nc, ns)
        | _ => False
      | _ => False
    | .lload _ => match rs with
      | [i] => match am_get ls i with
        | some (.long x) => P (is, ls, .long x :: st, hp, nc, ns)
        | _ => False
      | _ => False
    | .istore_n _ => match rs, st with
      | [i], .int x :: r => match am_set ls i (.int x) with
        | some l2 => P (is, l2, r, hp, nc, ns)
        | none => False
      | _, _ => False
    | .istore _ => match rs, st with
      | [i], .int x :: r => match am_set ls i (.int x) with
        | some l2 => P (is, l2, r, hp, nc, ns)
        | none => False
      | _, _ => False
    | .astore_n _ => match rs, st with
      | [i], .ref x :: r => match am_set ls i (.ref x) with
        | some l2 => P (is, l2, r, hp, nc, ns)
        | none => False
      | _, _ => False
    | .astore _ => match rs, st with
      | [i], .ref x :: r => match am_set ls i (.ref x) with
        | some l2 => P (is, l2, r, hp, nc, ns)
        | none => False
      | _, _ => False
    | .lstore_n _ => match rs, st with
      | [i], .long x :: r => match am_setL ls i (.long x) with
        | some l2 => P (is, l2, r, hp, nc, ns)
        | none => False
      | _, _ => False
    | .lstore _ => match rs, st with
      | [i], .long x :: r => match am_setL ls i (.long x) with
        | some l2 => P (is, l2, r, hp, nc, ns)
        | none => False
      | _, _ => False
    | .iinc _ _ => match rs with
      | [i] => match am_get ls i with
        | some (.int x) => match am_set ls i (.int (x + im)) with
          | some l2 => P (is, l2, st, hp, nc, ns)
          | none => False
        | _ => False
      | _ => False
    | .iadd => match st with
      | .int y :: .int x :: r => P (is, ls, .int (x + y) :: r, hp, nc, ns)
      | _ => False
    | .isub => match st with
      | .int y :: .int x :: r => P (is, ls, .int (x - y) :: r, hp, nc, ns)
      | _ => False
    | .imul => match st with
      | .int y :: .int x :: r => P (is, ls, .int (x * y) :: r, hp, nc, ns)
      | _ => False
    | .iand => match st with
      | .int y :: .int x :: r => P (is, ls, .int (x &&& y) :: r, hp, nc, ns)
      | _ => False
    | .ior => match st with
      | .int y :: .int x :: r => P (is, ls, .int (x ||| y) :: r, hp, nc, ns)
      | _ => False
    | .ixor => match st with
      | .int y :: .int x :: r => P (is, ls, .int (x ^^^ y) :: r, hp, nc, ns)
      | _ => False
    | .ishl => match st with
      | .int y :: .int x :: r => P (is, ls, .int (x <<< (y &&& 31)) :: r, hp, nc, ns)
      | _ => False
    | .ishr => match st with
      | .int y :: .int x :: r => P (is, ls, .int (x >>> (y &&& 31)) :: r, hp, nc, ns)
      | _ => False
    | .iushr => match st with
      | .int y :: .int x :: r => P (is, ls, .int ((x.toUInt32 >>> (y.toUInt32 &&& Int32.toUInt32 31)).toInt32) :: r, hp, nc, ns)
      | _ => False
    | .idiv => match st with
      | .int y :: .int x :: r => ¬ y = 0 ∧ P (is, ls, .int (x / y) :: r, hp, nc, ns)
      | _ => False
    | .irem => match st with
      | .int y :: .int x :: r => ¬ y = 0 ∧ P (is, ls, .int (am_rem x y) :: r, hp, nc, ns)
      | _ => False
    | .ineg => match st with
      | .int x :: r => P (is, ls, .int (-x) :: r, hp, nc, ns)
      | _ => False
    | .i2b => match st with
      | .int x :: r => P (is, ls, .int (x.toInt8.toInt32) :: r, hp, nc, ns)
      | _ => False
    | .i2c => match st with
      | .int x :: r => P (is, ls, .int ((x.toUInt32 % 65536).toInt32) :: r, hp, nc, ns)
      | _ => False
    | .i2l => match st with
      | .int x :: r => P (is, ls, .long x.toInt64 :: r, hp, nc, ns)
      | _ => False
    | .ladd => match st with
      | .long y :: .long x :: r => P (is, ls, .long (x + y) :: r, hp, nc, ns)
      | _ => False
    | .lcmp => match st with
      | .long y :: .long x :: r => P (is, ls, .int (lg_cmp x y) :: r, hp, nc, ns)
      | _ => False
    | .dup => match st with
      | .int x :: r => P (is, ls, .int x :: .int x :: r, hp, nc, ns)
      | .ref x :: r => P (is, ls, .ref x :: .ref x :: r, hp, nc, ns)
      | _ => False
    | .dup2 => match st with
      | .int i :: .ref k :: r => P (is, ls, .int i :: .ref k :: .int i :: .ref k :: r, hp, nc, ns)
      | _ => False
    | .pop => match st with
      | .int _ :: r => P (is, ls, r, hp, nc, ns)
      | _ => False
    | .goto _ => match rs with
      | [t] => P (cd.drop t, ls, st, hp, nc, ns)
      | _ => False
    | .if_icmp cnd _ => match rs, st with
      | [t], .int y :: .int x :: r => am_br cnd x y (P (cd.drop t, ls, r, hp, nc, ns)) (P (is, ls, r, hp, nc, ns))
      | _, _ => False
    | .ifCond cnd _ => match rs, st with
      | [t], .int x :: r => am_br cnd x 0 (P (cd.drop t, ls, r, hp, nc, ns)) (P (is, ls, r, hp, nc, ns))
      | _, _ => False
    | .tableswitch _ _ _ _ => match rs, st with
      | d :: ts, .int x :: r => am_tab x (fun t => P (cd.drop t, ls, r, hp, nc, ns)) im ts ∧ ((x < im ∨ im + Int32.ofNat ts.length ≤ x) → P (cd.drop d, ls, r, hp, nc, ns))
      | _, _ => False
    | .lookupswitch _ _ => match rs, st with
      | d :: ts, .int x :: r => am_look x (fun t => P (cd.drop t, ls, r, hp, nc, ns)) d ts
      | _, _ => False
    | .getfield _ => match rs, st with
      | j :: f :: cs, .ref k :: r => match am_at hp.1 k with
        | some (kd, _, q) => match am_mem kd cs with
          | true => match f with
            | 0 => P (is, ls, .int (hp.2.1 k j) :: r, hp, nc, ns)
            | _ => match am_nth q j with
              | some (some a) => P (is, ls, .ref a :: r, hp, nc, ns)
              | _ => False
          | false => False
        | none => False
      | _, _ => False
    | .putfield _ => match rs, st with
      | j :: f :: cs, v :: .ref k :: r => match am_at hp.1 k with
        | some (kd, n, q) => match am_mem kd cs with
          | true => match f, v with
            | 0, .int x => P (is, ls, r, (hp.1, am_up hp.2.1 k j x, hp.2.2), nc, ns)
            | 1, .int x => (x = 0 ∨ x = 1) ∧ P (is, ls, r, (hp.1, am_up hp.2.1 k j x, hp.2.2), nc, ns)
            | 2, .ref a => match Nat.blt j q.length with
              | true => P (is, ls, r, (am_setS hp.1 k (kd, n, am_setR q j (some a)), hp.2.1, hp.2.2), nc, ns)
              | false => False
            | _, _ => False
          | false => False
        | none => False
      | _, _ => False
    | .getstatic _ => match rs with
      | [k] => P (is, ls, .ref k :: st, hp, nc, ns)
      | _ => False
    | .iaload => match st with
      | .int i :: .ref k :: r => match am_at hp.1 k with
        | some (100, n, _) => vp_in i n ∧ P (is, ls, .int (hp.2.1 k i.toNatClampNeg) :: r, hp, nc, ns)
        | none => match K k with
          | some (n, f) => vp_in i n ∧ P (is, ls, .int (f i.toNatClampNeg) :: r, hp, nc, ns)
          | none => False
        | _ => False
      | _ => False
    | .baload => match st with
      | .int i :: .ref k :: r => match am_at hp.1 k with
        | some (101, n, _) => vp_in i n ∧ P (is, ls, .int (hp.2.1 k i.toNatClampNeg) :: r, hp, nc, ns)
        | some (102, n, _) => vp_in i n ∧ P (is, ls, .int (hp.2.1 k i.toNatClampNeg) :: r, hp, nc, ns)
        | _ => False
      | _ => False
    | .laload => match st with
      | .int i :: .ref k :: r => match am_at hp.1 k with
        | some (103, n, _) => vp_in i n ∧ P (is, ls, .long (hp.2.2 k i.toNatClampNeg) :: r, hp, nc, ns)
        | _ => False
      | _ => False
    | .aaload => match st with
      | .int i :: .ref k :: r => match am_at hp.1 k with
        | some (104, n, q) => vp_in i n ∧ (match am_nth q i.toNatClampNeg with
          | some (some a) => P (is, ls, .ref a :: r, hp, nc, ns)
          | _ => False)
        | _ => False
      | _ => False
    | .iastore => match st with
      | .int x :: .int i :: .ref k :: r => match am_at hp.1 k with
        | some (100, n, _) => vp_in i n ∧ P (is, ls, r, (hp.1, am_up hp.2.1 k i.toNatClampNeg x, hp.2.2), nc, ns)
        | _ => False
      | _ => False
    | .bastore => match st with
      | .int x :: .int i :: .ref k :: r => match am_at hp.1 k with
        | some (101, n, _) => vp_in i n ∧ P (is, ls, r, (hp.1, am_up hp.2.1 k i.toNatClampNeg (vp_nar .boolean x), hp.2.2), nc, ns)
        | some (102, n, _) => vp_in i n ∧ P (is, ls, r, (hp.1, am_up hp.2.1 k i.toNatClampNeg (vp_nar .byte x), hp.2.2), nc, ns)
        | _ => False
      | _ => False
    | .lastore => match st with
      | .long x :: .int i :: .ref k :: r => match am_at hp.1 k with
        | some (103, n, _) => vp_in i n ∧ P (is, ls, r, (hp.1, hp.2.1, am_upX hp.2.2 k i.toNatClampNeg x), nc, ns)
        | _ => False
      | _ => False
    | .arraylength => match st with
      | .ref k :: r => match am_at hp.1 k with
        | some (100, n, _) => P (is, ls, .int (Int32.ofNat n) :: r, hp, nc, ns)
        | some (103, n, _) => P (is, ls, .int (Int32.ofNat n) :: r, hp, nc, ns)
        | none => match K k with
          | some (n, _) => P (is, ls, .int (Int32.ofNat n) :: r, hp, nc, ns)
          | none => False
        | _ => False
      | _ => False
    | .invokestatic _ => match rs with
      | [0, n, mid] => match am_pop n [] st with
        | some (as, r) => match Nat.ble (am_ws r) 8 with
          | true => Tc mid as hp 0 0 (fun o h2 => P (is, ls, am_push o r, h2, nc, ns))
          | false => False
        | none => False
      | [2, pk] => match Nat.ble (am_ws st) 16 with
        | true => am_prim I pk st hp (fun s2 h2 => P (is, ls, s2, h2, nc, ns))
        | false => False
      | _ => False
    | .invokevirtual _ => match rs with
      | 1 :: n :: cs => match am_pop n [] st with
        | some (.ref k :: as, r) => match am_at hp.1 k with
          | some (kd, _, _) => match am_pick kd cs with
            | some mid => match Nat.ble (am_ws r) 8 with
              | true => Tc mid (.ref k :: as) hp 0 0 (fun o h2 => P (is, ls, am_push o r, h2, nc, ns))
              | false => False
            | none => False
          | none => False
        | _ => False
      | [2, pk] => match Nat.ble (am_ws st) 10 with
        | true => am_prim I pk st hp (fun s2 h2 => P (is, ls, s2, h2, nc, ns))
        | false => False
      | _ => False
    | .invokespecial _ => match rs with
      | [3, n, mid, c2, s2] => match am_pop n [] st with
        | some (.ref k :: as, r) => match Nat.ble (am_ws r) 8 && (am_rl hp.1.length ls && am_rs hp.1.length r) with
          | true => (nc + c2 ≤ mc ∧ ns + s2 ≤ ms) ∧ Tc mid (.ref k :: as) hp c2 s2 (fun o h2 => P (is, ls, am_push o r, h2, nc + c2, ns + s2))
          | false => False
        | _ => False
      | [2, pk] => match Nat.ble (am_ws st) 8 with
        | true => am_prim I pk st hp (fun s2 h2 => P (is, ls, s2, h2, nc, ns))
        | false => False
      | _ => False
    | .ireturn => match rs, st with
      | [0], [.int x] => Q (some (.int x)) hp
      | [1], [.int x] => (x = 0 ∨ x = 1) ∧ Q (some (.int x)) hp
      | _, _ => False
    | .lreturn => match st with
      | [.long x] => Q (some (.long x)) hp
      | _ => False
    | .areturn => match st with
      | [.ref k] => Q (some (.ref k)) hp
      | _ => False
    | .return_ => match st with
      | [] => Q none hp
      | _ => False
    | .new _ => match rs with
      | [ci, n] => match am_rl hp.1.length ls && (am_rs hp.1.length st && (am_rh hp.1.length hp.1 && Nat.blt hp.1.length 1000)) with
        | true => (nc + 1 ≤ mc ∧ ns + n ≤ ms ∧ ∀ j, hp.2.1 hp.1.length j = 0) ∧ P (is, ls, .ref hp.1.length :: st, (hp.1 ++ [(ci, 0, am_nones n)], hp.2.1, hp.2.2), nc + 1, ns + n)
        | false => False
      | _ => False
    | .newarray _ => match rs, st with
      | [kd, n], .int x :: r => match am_rl hp.1.length ls && (am_rs hp.1.length r && (am_rh hp.1.length hp.1 && Nat.blt hp.1.length 1000)) with
        | true => (x = im ∧ nc + 1 ≤ mc ∧ ns + n ≤ ms ∧ (∀ j, hp.2.1 hp.1.length j = 0) ∧ ∀ j, hp.2.2 hp.1.length j = 0) ∧ P (is, ls, .ref hp.1.length :: r, (hp.1 ++ [(kd, n, [])], hp.2.1, hp.2.2), nc + 1, ns + n)
        | false => False
      | _, _ => False
    | .multianewarray _ _ => match rs, st with
      | [n, k], .int y :: .int x :: r => match am_rl hp.1.length ls && (am_rs hp.1.length r && (am_rh hp.1.length hp.1 && Nat.blt (hp.1.length + n) 1000)) with
        | true => (x = im ∧ y = im ∧ nc + (1 + n) ≤ mc ∧ ns + (n + n * k) ≤ ms ∧ (∀ i j, i ≤ n → hp.2.1 (hp.1.length + i) j = 0)) ∧ P (is, ls, .ref hp.1.length :: r, (hp.1 ++ ((104, n, am_rows (hp.1.length + 1) n) :: am_reps n (100, k, [])), hp.2.1, hp.2.2), nc + (1 + n), ns + (n + n * k))
        | false => False
      | _, _ => False
    | _ => False
/-- a method's table: its instructions, how many locals -/
abbrev am_M : Type := Nat → List am_E × Nat
def am_run (K : am_K) (I : am_I) (M : am_M) : Nat → am_T
  | 0 => fun _ _ _ _ _ _ => False
  | d + 1 => fun mid as hp mc ms Q => Nat.ble (am_ws as) (M mid).2 = true ∧ ∀ P : am_C → Prop, (∀ c, am_step K I (am_run K I M d) (M mid).1 mc ms Q P c → P c) → P ((M mid).1, am_ent (M mid).2 as, [], hp, 0, 0)
