/-! ===== the checker of instruction lists ===== -/
def am_d (bytes : ByteArray) (pc : Nat) (ins : Instr) (len : Nat) (is : List am_E) : Bool := decide (decode bytes pc = .ok (ins, len)) && Nat.beq (am_pcl is) (pc + len)
def am_dj (bytes : ByteArray) (pc : Nat) (ins : Instr) (len : Nat) : Bool := decide (decode bytes pc = .ok (ins, len))
def am_j (cd : List am_E) (pc : Nat) (off : Int) (t : Nat) : Bool := decide ((pc : Int) + off = ((am_pcl (cd.drop t) : Nat) : Int))
def am_fok (own : String) (idx : Nat) (wl : List Nat) (j ci : Nat) : Bool := match vwCl[ci]? with
  | some (_, T, N) => Nat.blt j N && (match wl with
    | [wi] => decide (lw_tbl[wi]? = some (.fieldLink own idx (T j).1 (T j).2.1 (T j).2.2.1)) || decide (lw_tbl[wi]? = some (.fieldLinkNest own idx (T j).1 (T j).2.1 (T j).2.2.1 "TwoKings"))
    | [wi, wj] => decide (lw_tbl[wi]? = some (.fieldLink own idx own (T j).2.1 (T j).2.2.1)) && decide (lw_tbl[wj]? = some (.sameField own (T j).1 (T j).2.1 (T j).2.2.1))
    | _ => false)
  | none => false
def am_isRT (d : String) : Bool := match parseFieldDescriptor d with
  | some (.object _) => true
  | some (.array _) => true
  | _ => false
def am_pok (own : String) (isI : Bool) (idx : Nat) (wl : List Nat) (j f ci : Nat) : Bool := match vwCl[ci]? with
  | some (_, T, N) => Nat.blt j N && ((match (T j).2.2.2 with
    | false => am_fok own idx wl j ci
    | true => isI && (decide ((T j).1 = own) && (match wl with
      | [wi] => decide (lw_tbl[wi]? = some (.fieldLink own idx (T j).1 (T j).2.1 (T j).2.2.1))
      | _ => false))) && (match f with
    | 0 => decide ((T j).2.2.1 = "I") && !am_isR ci j
    | 1 => decide ((T j).2.2.1 = "Z") && !am_isR ci j
    | _ => am_isRT (T j).2.2.1 && am_isR ci j))
  | none => false
/-- a method's row: its name, code, locals, what it returns; places of its words: code, initialized, static or instance -/
abbrev am_Y : Type := Nat → MethodName × ByteArray × Nat × Option FieldType × Nat × Nat × Nat
def am_np (d : String) : Option Nat := (parseMethodDescriptor d).map (fun d => d.parameters.length)
def am_sok (Y : am_Y) (own : String) (idx : Nat) (wl : List Nat) (n mid : Nat) : Bool := match wl with
  | [wi] => decide (am_np (Y mid).1.desc = some n ∧ mid < am_N) && (decide (lw_tbl[(Y mid).2.2.2.2.2.2]? = some (.static (Y mid).1)) && (decide (lw_tbl[wi]? = some (.methodLink own idx (Y mid).1)) || decide (lw_tbl[wi]? = some (.methodLinkNest own idx (Y mid).1 "TwoKings"))))
  | _ => false
def am_iok (Y : am_Y) (own : String) (idx : Nat) (wl : List Nat) (n mid : Nat) : Bool := match wl with
  | [wi] => decide (am_np (Y mid).1.desc = some (n - 1) ∧ mid < am_N) && (decide ((Y mid).1.name = "<init>" ∧ (Y mid).2.2.2.1 = none ∧ 1 ≤ n) && (decide (lw_tbl[(Y mid).2.2.2.2.2.2]? = some (.instanceMethod (Y mid).1)) && (decide (lw_tbl[wi]? = some (.methodLink own idx (Y mid).1)) || decide (lw_tbl[wi]? = some (.methodLinkNest own idx (Y mid).1 "TwoKings")))))
  | _ => false
/-- a virtual call: pairs (class, method); the words' places: link, sameMethod, declares, then a selects each -/
def am_vok (Y : am_Y) (own : String) (idx : Nat) (wi sm dc n : Nat) : List Nat → List Nat → Bool
  | [], _ => true
  | ci :: mid :: cs, w :: ws => (match vwCl[ci]? with
    | some (C, _, _) => decide (lw_tbl[(Y mid).2.2.2.2.2.2]? = some (.instanceMethod (Y mid).1)) && (decide (am_np (Y mid).1.desc = some (n - 1) ∧ 1 ≤ n ∧ mid < am_N) && ((decide (lw_tbl[wi]? = some (.methodLink own idx (Y mid).1)) && decide (lw_tbl[w]? = some (.selects C (Y mid).1 (Y mid).1))) || (match lw_tbl[wi]? with
      | some (.methodLink o i x) => decide (o = own ∧ i = idx) && (decide (lw_tbl[w]? = some (.selects C x (Y mid).1)) && (decide (lw_tbl[sm]? = some (.sameMethod x.cls "TwoKings$Reader" x.name x.desc)) && (decide (lw_tbl[dc]? = some (.declares ⟨"TwoKings$Reader", x.name, x.desc⟩)) && decide (am_np x.desc = some (n - 1)))))
      | _ => false)))
    | none => false) && am_vok Y own idx wi sm dc n cs ws
  | _, _ => false
def am_primN (pk : Nat) : MethodName := match pk with
  | 0 => Lib.objectInit
  | 1 => Lib.Math.max.name
  | 2 => Lib.Math.min.name
  | 3 => Lib.Math.abs.name
  | 4 => arraycopyName
  | _ => yJ0_indexOf_0f7a4
def am_pl (own : String) (i pk : Nat) (wl : List Nat) : Bool := match wl with
  | [wi] => decide (lw_tbl[wi]? = some (.methodLink own i (am_primN pk)))
  | _ => false
def am_vw (Y : am_Y) (own : String) (i n : Nat) (cs wl : List Nat) : Bool := match wl with
  | wi :: sm :: dc :: ws => am_vok Y own i wi sm dc n cs ws
  | _ => false
/-- the tables have what the primitives want -/
def am_primsOk : Bool := decide (Jvm.Cond.instanceMethod Lib.objectInit ∈ lw_tbl) && (decide (Jvm.Cond.code Lib.objectInit ⟨#[0xb1]⟩ 1 none ∈ lw_tbl) && (decide (Jvm.Cond.initialized "java/lang/Math" ∈ lw_tbl) && (decide (Jvm.Cond.static Lib.Math.max.name ∈ lw_tbl) && (decide (Jvm.Cond.static Lib.Math.min.name ∈ lw_tbl) && (decide (Jvm.Cond.static Lib.Math.abs.name ∈ lw_tbl) && (decide (Jvm.Cond.code Lib.Math.max.name Lib.Math.max.code 2 (some .int) ∈ lw_tbl) && (decide (Jvm.Cond.code Lib.Math.min.name Lib.Math.min.code 2 (some .int) ∈ lw_tbl) && (decide (Jvm.Cond.code Lib.Math.abs.name Lib.Math.abs.code 1 (some .int) ∈ lw_tbl) && (decide (Jvm.Cond.native arraycopyName ∈ lw_tbl) && (decide (Jvm.Cond.static arraycopyName ∈ lw_tbl) && decide (Jvm.Cond.initialized "java/lang/System" ∈ lw_tbl)))))))))))
theorem am_primsOk_t : am_primsOk = true := by decide +kernel
def am_lok (cd : List am_E) (pc : Nat) : List (Int × Int) → List Nat → Bool
  | [], [] => true
  | (k, o) :: ps, a :: t :: ts => decide ((Int32.ofNat a).toInt = k) && (am_j cd pc o t && am_lok cd pc ps ts)
  | _, _ => false
def am_tok (cd : List am_E) (pc : Nat) : List Int → List Nat → Bool
  | [], [] => true
  | o :: os, t :: ts => am_j cd pc o t && am_tok cd pc os ts
  | _, _ => false
def am_sxok (own : String) (idx wi : Nat) (k : Nat) : Bool := match lw_tbl[wi]? with
  | some (.stringRef o i _) => decide (o = own ∧ i = idx) && Nat.beq k (2000 + wi)
  | _ => false
def am_okb (Y : am_Y) (own : String) (bytes : ByteArray) (isI : Bool) (ret : Option FieldType) (cd : List am_E) (q : am_E) (is : List am_E) : Bool := match q with
  | (pc, ins, rs, im, wl) => match ins with
    | .iconst n => am_d bytes pc ins 1 is && decide (Int32.ofInt n = im)
    | .bipush n => am_d bytes pc ins 2 is && decide ((Int8.ofInt n).toInt32 = im)
    | .sipush n => am_d bytes pc ins 3 is && decide ((Int16.ofInt n).toInt32 = im)
    | .ldc i => am_d bytes pc ins 2 is && (match rs, wl with
      | [], [wi] => decide (lw_tbl[wi]? = some (.constant own i im))
      | [k], [wi] => am_sxok own i wi k
      | _, _ => false)
    | .ldc_w i => am_d bytes pc ins 3 is && (match wl with
      | [wi] => decide (lw_tbl[wi]? = some (.constant own i im))
      | _ => false)
    | .ldc2_w i => am_d bytes pc ins 3 is && (match wl with
      | [wi] => decide (lw_tbl[wi]? = some (.constantLong own i (-1)))
      | _ => false)
    | .lconst n => am_d bytes pc ins 1 is && decide (Int64.ofNat (n : Nat) = im.toInt64)
    | .iload_n k => am_d bytes pc ins 1 is && decide (rs = [(k : Nat)])
    | .aload_n k => am_d bytes pc ins 1 is && decide (rs = [(k : Nat)])
    | .lload_n k => am_d bytes pc ins 1 is && decide (rs = [(k : Nat)])
    | .istore_n k => am_d bytes pc ins 1 is && decide (rs = [(k : Nat)])
    | .astore_n k => am_d bytes pc ins 1 is && decide (rs = [(k : Nat)])
    | .lstore_n k => am_d bytes pc ins 1 is && decide (rs = [(k : Nat)])
    | .iload k => am_d bytes pc ins 2 is && decide (rs = [k])
    | .aload k => am_d bytes pc ins 2 is && decide (rs = [k])
    | .lload k => am_d bytes pc ins 2 is && decide (rs = [k])
    | .istore k => am_d bytes pc ins 2 is && decide (rs = [k])
    | .astore k => am_d bytes pc ins 2 is && decide (rs = [k])
    | .lstore k => am_d bytes pc ins 2 is && decide (rs = [k])
    | .iinc k n => am_d bytes pc ins 3 is && decide (rs = [k] ∧ Int32.ofInt n = im)
    | .goto off => am_dj bytes pc ins 3 && (match rs with
      | [t] => am_j cd pc off t
      | _ => false)
    | .if_icmp _ off => am_d bytes pc ins 3 is && (match rs with
      | [t] => am_j cd pc off t
      | _ => false)
    | .ifCond _ off => am_d bytes pc ins 3 is && (match rs with
      | [t] => am_j cd pc off t
      | _ => false)
    | .tableswitch dflt lo hi offs => (match decode bytes pc with
      | .ok (i, _) => decide (i = ins)
      | .error _ => false) && (match rs with
      | d :: ts => am_j cd pc dflt d && (am_tok cd pc offs.toList ts && decide (im.toInt = lo ∧ hi = lo + (ts.length : Int) - 1 ∧ 0 ≤ lo ∧ hi < 1000))
      | _ => false)
    | .lookupswitch dflt ps => (match decode bytes pc with
      | .ok (i, _) => decide (i = ins)
      | .error _ => false) && (match rs with
      | d :: ts => am_j cd pc dflt d && (am_lok cd pc ps.toList ts && (ps.toList.zip (ps.toList.drop 1)).all (fun (a, next) => a.1 < next.1))
      | _ => false)
    | .getfield i => am_d bytes pc ins 3 is && (match rs with
      | j :: f :: cs => cs.all (fun ci => am_fok own i wl j ci && (Nat.blt ci 100 && (match f with
        | 0 => !am_isR ci j
        | _ => am_isR ci j)))
      | _ => false)
    | .putfield i => am_d bytes pc ins 3 is && (match rs with
      | j :: f :: cs => cs.all (fun ci => am_pok own isI i wl j f ci && Nat.blt ci 100)
      | _ => false)
    | .getstatic i => am_d bytes pc ins 3 is && (match rs, wl with
      | [k], [wi] => decide (k = 1001) && decide (lw_tbl[wi]? = some (.fieldLink own i "TwoKings$Lane" "WEIGHT" "[I"))
      | _, _ => false)
    | .invokestatic i => am_d bytes pc ins 3 is && (match rs with
      | [0, n, mid] => am_sok Y own i wl n mid
      | [2, pk] => Nat.ble 1 pk && (Nat.ble pk 4 && am_pl own i pk wl)
      | _ => false)
    | .invokespecial i => am_d bytes pc ins 3 is && (match rs with
      | [3, n, mid, _, _] => am_iok Y own i wl n mid
      | [2, pk] => Nat.beq pk 0 && am_pl own i 0 wl
      | _ => false)
    | .invokevirtual i => am_d bytes pc ins 3 is && (match rs with
      | 1 :: n :: cs => am_vw Y own i n cs wl
      | [2, pk] => Nat.beq pk 5 && am_pl own i 5 wl
      | _ => false)
    | .ireturn => am_dj bytes pc ins 1 && (match rs with
      | [0] => decide (ret = some .int)
      | [1] => decide (ret = some .boolean)
      | _ => false)
    | .lreturn => am_dj bytes pc ins 1 && decide (ret = some .long)
    | .areturn => am_dj bytes pc ins 1 && (match ret with
      | some (.object _) => true
      | _ => false)
    | .return_ => am_dj bytes pc ins 1 && decide (ret = none)
    | .new i => am_d bytes pc ins 3 is && (match rs, wl with
      | [ci, n], [wi, wj, wk] => (match vwCl[ci]? with
        | some (C, _, N) => decide (n = N ∧ ci < 100) && (decide (lw_tbl[wi]? = some (.classLink own i C)) && (decide (lw_tbl[wj]? = some (.instantiable C N)) && decide (lw_tbl[wk]? = some (.initialized C))))
        | none => false)
      | _, _ => false)
    | .newarray ty => am_d bytes pc ins 2 is && (match rs, wl with
      | [kd, n], [wi] => decide (im.toNatClampNeg = n ∧ ¬ im < 0 ∧ n ≤ 100000) && (decide (lw_tbl[wi]? = some (.arrayClass (newarray.typeOf ty))) && decide ((kd = 100 ∧ ty = .int) ∨ (kd = 101 ∧ ty = .boolean) ∨ (kd = 102 ∧ ty = .byte) ∨ (kd = 103 ∧ ty = .long)))
      | _, _ => false)
    | .multianewarray i k => am_d bytes pc ins 4 is && (match rs, wl with
      | [n, n2], [wi, wj, wk] => decide (im.toNatClampNeg = n ∧ ¬ im < 0 ∧ n2 = n ∧ n ≤ 1000 ∧ k = 2) && (decide (lw_tbl[wi]? = some (.classLink own i "[[I")) && (decide (lw_tbl[wj]? = some (.arrayOver (.array .int))) && decide (lw_tbl[wk]? = some (.arrayClass .int))))
      | _, _ => false)
    | _ => am_d bytes pc ins 1 is
/-- all of a list -/
def am_chk (Y : am_Y) (own : String) (bytes : ByteArray) (isI : Bool) (ret : Option FieldType) (cd : List am_E) : List am_E → Bool
  | [] => true
  | q :: is => am_okb Y own bytes isI ret cd q is && am_chk Y own bytes isI ret cd is
theorem am_chk_suf {Y : am_Y} {own : String} {bytes : ByteArray} {isI : Bool} {ret : Option FieldType} {cd : List am_E} : ∀ (l : List am_E), am_chk Y own bytes isI ret cd l = true → ∀ (q : am_E) (is : List am_E), (q :: is) <:+ l → am_okb Y own bytes isI ret cd q is = true
  | [], _, q, is, h => by
    have := h.length_le
    simp at this
  | a :: l, hc, q, is, h => by
    have h2 := (Bool.and_eq_true _ _).mp hc
    rcases List.suffix_cons_iff.mp h with h3 | h3
    · cases h3
      exact h2.1
    · exact am_chk_suf l h2.2 q is h3
