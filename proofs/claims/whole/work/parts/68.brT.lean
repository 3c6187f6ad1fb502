/-! ===== a breath: what the numbers are behind it; the reference's breath whole ===== -/
theorem ii_add {x y : Int32} (h1 : -1000000 ≤ x.toInt) (h2 : x.toInt ≤ 1000000) (h3 : -1000000 ≤ y.toInt) (h4 : y.toInt ≤ 1000000) : (x + y).toInt = x.toInt + y.toInt := by
  rw [Int32.toInt_add, Int.bmod_eq_of_le (by omega) (by omega)]
theorem ii_sub {x y : Int32} (h1 : -1000000 ≤ x.toInt) (h2 : x.toInt ≤ 1000000) (h3 : -1000000 ≤ y.toInt) (h4 : y.toInt ≤ 1000000) : (x - y).toInt = x.toInt - y.toInt := by
  rw [Int32.toInt_sub, Int.bmod_eq_of_le (by omega) (by omega)]
theorem iv_inI {x lo hi : Int32} {a b : Int} (ha : lo.toInt = a) (hb : hi.toInt = b) : iv_in x lo hi ↔ a ≤ x.toInt ∧ x.toInt ≤ b := by
  unfold iv_in
  rw [Int32.le_iff_toInt_le, Int32.le_iff_toInt_le, ha, hb]
theorem rg_half {f : Int32} (h : iv_in f 0 9) : iv_in (f / 2) 0 9 := by
  obtain ⟨b, hb, rfl⟩ := am_nat h.1 h.2 (n := 9) rfl
  rw [show (2 : Int32) = nI 2 from rfl, pk_div (by omega) (by omega) (by omega)]
  exact ⟨nI_pos' (by omega), nI_le (b := 9) (by omega) (by omega)⟩
theorem rg_mx {x hi : Int32} (h : x ≤ hi) (h0 : 0 ≤ hi) : iv_in (f_mx 0 x) 0 hi := by
  unfold f_mx
  split
  · exact ⟨Int32.le_of_lt (by assumption), h⟩
  · exact ⟨Int32.le_refl _, h0⟩
theorem rg_st {s f l : Int32} (hs : iv_in s 0 999) (hf : iv_in f 0 9) : iv_in (bk_st s f l) 0 999 := by
  unfold bk_st
  have hg : iv_in (if l = 0 then f else f / 2) 0 9 := by
    split
    · exact hf
    · exact rg_half hf
  generalize (if l = 0 then f else f / 2) = g at hg
  refine rg_mx ?_ (by decide)
  have a := (iv_inI (a := 0) (b := 999) rfl rfl).mp hs
  have b := (iv_inI (a := 0) (b := 9) rfl rfl).mp hg
  rw [Int32.le_iff_toInt_le, ii_sub (by omega) (by omega) (by omega) (by omega), show (999 : Int32).toInt = 999 from rfl]
  omega
theorem rg_mn (x hi : Int32) : f_mn hi x ≤ hi := by
  unfold f_mn
  split
  · exact Int32.le_of_lt (by assumption)
  · exact Int32.le_refl _
theorem rg_bw {b x y : Int32} : iv_in (bk_bw b x y) 0 90 := rg_mx (rg_mn _ _) (by decide)
theorem rg_pt {m x : Int32} {n : Int} (hm : 0 ≤ m) (hx : x.toInt ≤ n) (hn : 0 ≤ n) : 0 ≤ (if m < x then x else 0 : Int32).toInt ∧ (if m < x then x else 0 : Int32).toInt ≤ n := by
  have a := Int32.le_iff_toInt_le.mp hm
  rw [show (0 : Int32).toInt = 0 from rfl] at a
  split
  · have b := Int32.lt_iff_toInt_lt.mp (by assumption : m < x)
    omega
  · rw [show (0 : Int32).toInt = 0 from rfl]
    omega
theorem rg_of {s s' b b' h h' mS mD o : Int32} (hs : iv_in s 0 999) (hs' : iv_in s' 0 999) (hb : iv_in b 0 90) (hb' : iv_in b' 0 90) (hS : 0 ≤ mS) (hD : 0 ≤ mD) (ho : iv_in o 0 9999) : iv_in (bk_of s s' b b' h h' mS mD o) 0 9999 := by
  have a1 := (iv_inI (a := 0) (b := 999) rfl rfl).mp hs
  have a2 := (iv_inI (a := 0) (b := 999) rfl rfl).mp hs'
  have a3 := (iv_inI (a := 0) (b := 90) rfl rfl).mp hb
  have a4 := (iv_inI (a := 0) (b := 90) rfl rfl).mp hb'
  have a5 := (iv_inI (a := 0) (b := 9999) rfl rfl).mp ho
  have e1 : (s - s').toInt ≤ 999 := by
    rw [ii_sub (by omega) (by omega) (by omega) (by omega)]
    omega
  have e2 : (b - b').toInt ≤ 90 := by
    rw [ii_sub (by omega) (by omega) (by omega) (by omega)]
    omega
  have p1 := rg_pt hS e1 (by omega)
  have p2 := rg_pt hD e2 (by omega)
  have p3 : 0 ≤ (if h = 0 ∧ h' = 1 then 1 else 0 : Int32).toInt ∧ (if h = 0 ∧ h' = 1 then 1 else 0 : Int32).toInt ≤ 1 := by
    split
    · decide
    · decide
  unfold bk_of bk_mo
  generalize (if mS < s - s' then s - s' else 0 : Int32) = x at p1 ⊢
  generalize (if mD < b - b' then b - b' else 0 : Int32) = y at p2 ⊢
  generalize (if h = 0 ∧ h' = 1 then 1 else 0 : Int32) = t at p3 ⊢
  have s1 : (x + y).toInt = x.toInt + y.toInt := ii_add (by omega) (by omega) (by omega) (by omega)
  have s2 : (x + y + t).toInt = x.toInt + y.toInt + t.toInt := by
    rw [ii_add (by omega) (by omega) (by omega) (by omega), s1]
  have s3 : (o + (x + y + t)).toInt = o.toInt + (x.toInt + y.toInt + t.toInt) := by
    rw [ii_add (by omega) (by omega) (by omega) (by omega), s2]
  refine ⟨?_, rg_mn _ _⟩
  unfold f_mn
  split
  · rw [Int32.le_iff_toInt_le, s3, show (0 : Int32).toInt = 0 from rfl]
    omega
  · decide
theorem rg_bt {us : List lc_U} {mS mD : Int32} {r : Nat → Int32} (hr : rg r) (hg : goB r) (hS : 0 ≤ mS) (hD : 0 ≤ mD) : rg (bt us mS mD r) := by
  obtain ⟨⟨h0, h1, h2, h3, h4, h5⟩, ⟨h6, h7, h8, h9, h10, h11⟩, h12, h13⟩ := hr
  have s0 : iv_in (bt_s0 us r) 0 999 := rg_st h0 (lwA_rng (by decide) us)
  have s1 : iv_in (bt_s1 us r) 0 999 := rg_st h1 (lwA_rng (by decide) us)
  refine ⟨⟨s0, s1, rg_bw, rg_bw, rg_of s0 s1 rg_bw rg_bw hS hD h4, rg_of s1 s0 rg_bw rg_bw hS hD h5⟩, ⟨bk_hat_bit h6, bk_hat_bit h7, h8, h9, b2i_bit _, b2i_bit _⟩, ?_, bt_lot_rng _⟩
  show iv_in (r 12 + 1) 0 9999
  have a := (iv_inI (a := 0) (b := 9999) rfl rfl).mp h12
  have b := Int32.lt_iff_toInt_lt.mp hg.2.2
  rw [show (9999 : Int32).toInt = 9999 from rfl] at b
  rw [iv_inI (a := 0) (b := 9999) rfl rfl, ii_add (by omega) (by omega) (by decide) (by decide), show (1 : Int32).toInt = 1 from rfl]
  omega
theorem rg_congr {r r' : Nat → Int32} (h : ∀ j, j < 14 → r' j = r j) (hr : rg r) : rg r' := by
  unfold rg
  rw [h 0 (by decide), h 1 (by decide), h 2 (by decide), h 3 (by decide), h 4 (by decide), h 5 (by decide), h 6 (by decide), h 7 (by decide), h 8 (by decide), h 9 (by decide), h 10 (by decide), h 11 (by decide), h 12 (by decide), h 13 (by decide)]
  exact hr
theorem goB_congr {r r' : Nat → Int32} (h : ∀ j, j < 14 → r' j = r j) : goB r' ↔ goB r := by
  unfold goB
  rw [h 0 (by decide), h 1 (by decide), h 10 (by decide), h 11 (by decide), h 12 (by decide)]
section M68
variable {K : am_K} {I : am_I} {d : Nat} {v : am_V} {w : am_X} {Q : Option Value → am_H → Prop} {us : List lc_U} {z : Nat}
set_option maxRecDepth 100000 in
set_option maxHeartbeats 4000000 in
theorem m_breathR (hl : lw_is v us z) (hr : rg (v 63)) (hg : goB (v 63)) (h : ∀ v' : am_V, (∀ k, (k < 62 ∨ 87 < k ∨ (63 < k ∧ k < 78)) → v' k = v k) → (∀ j, j ≠ 38 → j ≠ 39 → j ≠ 40 → v' 62 j = v 62 j) → (∀ j, j < 14 → v' 63 j = bt us (v 62 3) (v 62 4) (v 63) j) → v' 62 38 = v 62 38 + 1 → v' 62 39 = (if v 62 39 = -1 then bt_th (bt us (v 62 3) (v 62 4) (v 63)) else v 62 39) → v' 62 40 = f_mx (v 62 40) (bt_ap (bt us (v 62 3) (v 62 4) (v 63))) → (∀ i, i < 3 → v' 85 i = v 85 i + (if bt_nr (bt us (v 62 3) (v 62 4) (v 63)) = i then 1 else 0)) → (∀ i, i < 2 → v' 84 i = v 84 i + (if v 63 (4 + i) < bt us (v 62 3) (v 62 4) (v 63) (4 + i) then 1 else 0)) → Q none (am_sh, v', w)) : am_run K I am_m (d + 5) 190 [.ref 62] (am_sh, v, w) 0 0 Q := by
  obtain ⟨-, ⟨r6, r7, r8, r9, r10, r11⟩, -, r13⟩ := hr
  obtain ⟨-, ⟨g10, g11⟩, -⟩ := hg
  have L1 := bt_lot_rng (v 63 13)
  refine en_X12_breathGoes rfl ?_
  intro P hP
  -- the lots
  ((repeat' first | refine hP _ ?_ | fail); try dsimp only)
  refine ⟨fun c => absurd c (by decide), fun _ => ?_⟩
  ((repeat' first | refine hP _ ?_ | fail); try dsimp only)
  refine ⟨am_vin rfl, ?_⟩
  ((repeat' first | refine hP _ ?_ | fail); try dsimp only)
  refine ⟨by decide, ?_⟩
  ((repeat' first | refine hP _ ?_ | fail); try dsimp only)
  refine ⟨am_vin rfl, ?_⟩
  dsimp only
  rw [tn_13, bt_lot_R r13.1 r13.2]
  ((repeat' first | refine hP _ ?_ | fail); try dsimp only)
  refine ⟨am_vin rfl, ?_⟩
  ((repeat' first | refine hP _ ?_ | fail); try dsimp only)
  refine ⟨by decide, ?_⟩
  ((repeat' first | refine hP _ ?_ | fail); try dsimp only)
  refine ⟨am_vin rfl, ?_⟩
  dsimp only
  rw [tn_0, tn_13, show am_up v 63 13 (bt_lot (v 63 13)) 63 13 = bt_lot (v 63 13) by rw [am_up_eq, if_pos ⟨rfl, rfl⟩]]
  ((repeat' first | refine hP _ ?_ | fail); try dsimp only)
  refine ⟨fun c => absurd c (by decide), fun _ => ?_⟩
  ((repeat' first | refine hP _ ?_ | fail); try dsimp only)
  refine ⟨am_vin rfl, ?_⟩
  ((repeat' first | refine hP _ ?_ | fail); try dsimp only)
  refine ⟨by decide, ?_⟩
  ((repeat' first | refine hP _ ?_ | fail); try dsimp only)
  refine ⟨am_vin rfl, ?_⟩
  dsimp only
  rw [tn_13, am_up_ne _ _ _ (show (63 : Nat) ≠ 80 by decide), show am_up v 63 13 (bt_lot (v 63 13)) 63 13 = bt_lot (v 63 13) by rw [am_up_eq, if_pos ⟨rfl, rfl⟩], bt_lot_R L1.1 L1.2]
  ((repeat' first | refine hP _ ?_ | fail); try dsimp only)
  refine ⟨am_vin rfl, ?_⟩
  ((repeat' first | refine hP _ ?_ | fail); try dsimp only)
  refine ⟨by decide, ?_⟩
  ((repeat' first | refine hP _ ?_ | fail); try dsimp only)
  refine ⟨am_vin rfl, ?_⟩
  dsimp only
  rw [tn_0_1, tn_13]
  generalize hvc : am_up (am_up (am_up v 63 13 (bt_lot (v 63 13))) 80 0 (am_rem (bt_lot (v 63 13)) 10)) 63 13 (bt_lot (bt_lot (v 63 13))) = vc
  rw [show vc 63 13 = bt_lot (bt_lot (v 63 13)) by rw [← hvc, am_up_eq, if_pos ⟨rfl, rfl⟩]]
  generalize hvd : am_up vc 80 1 (am_rem (bt_lot (bt_lot (v 63 13))) 10) = vd
  have fD : ∀ j, j ≠ 63 → j ≠ 80 → vd j = v j := fun j h1 h2 => by rw [← hvd, am_up_ne _ _ _ h2, ← hvc, am_up_ne _ _ _ h1, am_up_ne _ _ _ h2, am_up_ne _ _ _ h1]
  have gD : ∀ j, j ≠ 13 → vd 63 j = v 63 j := fun j h1 => by rw [← hvd, am_up_ne _ _ _ (by decide), ← hvc, am_up_eq, if_neg (fun q => h1 q.2), am_up_ne _ _ _ (by decide), am_up_eq, if_neg (fun q => h1 q.2)]
  have xD : vd 63 13 = bt_lot (bt_lot (v 63 13)) := by rw [← hvd, am_up_ne _ _ _ (by decide), ← hvc, am_up_eq, if_pos ⟨rfl, rfl⟩]
  have d0 : vd 80 0 = am_rem (bt_lot (v 63 13)) 10 := by rw [← hvd, am_up_eq, if_neg (by decide), ← hvc, am_up_ne _ _ _ (by decide), am_up_eq, if_pos ⟨rfl, rfl⟩]
  have d1 : vd 80 1 = am_rem (bt_lot (bt_lot (v 63 13))) 10 := by rw [← hvd, am_up_eq, if_pos ⟨rfl, rfl⟩]
  have lD : lw_is vd us z := lw_is_of hl (fun k hk => fD k (by revert k; decide) (by revert k; decide)) (by rw [fD 62 (by decide) (by decide)])
  clear hvc hvd
  ((repeat' first | refine hP _ ?_ | fail); try dsimp only)
  refine ⟨fun _ => ?_, fun c => absurd (by decide) c⟩
  -- they are asked
  ((repeat' first | refine hP _ ?_ | fail); try dsimp only)
  refine ⟨fun c => absurd c (by decide), fun _ => ?_⟩
  ((repeat' first | refine hP _ ?_ | fail); try dsimp only)
  refine m_asks_0 (F := bt_F0 (v 63)) lD (fun a _ => ?_) (fun v2 f2 o2 p81 p82 p83 p86 p87 => ?_)
  · show bt_F0 (v 63) a = bt_G 0 (vd 63 0) (vd 63 1) (vd 63 2) (vd 63 3) (vd 63 4) (vd 63 5) (vd 63 7) (am_rem (vd 63 12) 100) (vd 80 0) a
    rw [gD 0 (by decide), gD 1 (by decide), gD 2 (by decide), gD 3 (by decide), gD 4 (by decide), gD 5 (by decide), gD 7 (by decide), gD 12 (by decide), d0]
    rfl
  have l2 : lw_is v2 us z := lw_is_of lD (fun k hk => f2 k (by revert k; decide) (by revert k; decide) (by revert k; decide) (by revert k; decide) (by revert k; decide) (by revert k; decide) (by revert k; decide)) (by rw [f2 62 (by decide) (by decide) (by decide) (by decide) (by decide) (by decide) (by decide)])
  have e263 : v2 63 = vd 63 := f2 63 (by decide) (by decide) (by decide) (by decide) (by decide) (by decide) (by decide)
  have e280 : v2 80 = vd 80 := f2 80 (by decide) (by decide) (by decide) (by decide) (by decide) (by decide) (by decide)
  ((repeat' first | refine hP _ ?_ | fail); try dsimp only)
  rw [show (0 : Int32) + 1 = 1 from rfl]
  refine ⟨fun c => absurd c (by decide), fun _ => ?_⟩
  ((repeat' first | refine hP _ ?_ | fail); try dsimp only)
  refine m_asks_1 (F := bt_F1 (v 63)) l2 (fun a _ => ?_) (fun v3 f3 o3 q81 q82 q83 q86 q87 => ?_)
  · show bt_F1 (v 63) a = bt_G 1 (v2 63 1) (v2 63 0) (v2 63 3) (v2 63 2) (v2 63 5) (v2 63 4) (v2 63 6) (am_rem (v2 63 12) 100) (v2 80 1) a
    rw [e263, e280, gD 0 (by decide), gD 1 (by decide), gD 2 (by decide), gD 3 (by decide), gD 4 (by decide), gD 5 (by decide), gD 6 (by decide), gD 12 (by decide), d1]
    rfl
  have l3 : lw_is v3 us z := lw_is_of l2 (fun k hk => f3 k (by revert k; decide) (by revert k; decide) (by revert k; decide) (by revert k; decide) (by revert k; decide) (by revert k; decide) (by revert k; decide)) (by rw [f3 62 (by decide) (by decide) (by decide) (by decide) (by decide) (by decide) (by decide)])
  have e3 : v3 63 = vd 63 := by rw [f3 63 (by decide) (by decide) (by decide) (by decide) (by decide) (by decide) (by decide), e263]
  obtain ⟨z81, z82, z83, z86, z87⟩ := o3 0 (by decide)
  rw [p81] at z81
  rw [p82] at z82
  rw [p83] at z83
  rw [p86] at z86
  rw [p87] at z87
  have g3 : ∀ j, (j < 63 ∨ 87 < j ∨ (63 < j ∧ j < 78) ∨ j = 84 ∨ j = 85) → v3 j = v j := fun j hj => by
    rw [f3 j (by omega) (by omega) (by omega) (by omega) (by omega) (by omega) (by omega), f2 j (by omega) (by omega) (by omega) (by omega) (by omega) (by omega) (by omega), fD j (by omega) (by omega)]
  ((repeat' first | refine hP _ ?_ | fail); try dsimp only)
  rw [show (1 : Int32) + 1 = 2 from rfl]
  refine ⟨fun _ => ?_, fun c => absurd (by decide) c⟩
  -- they move
  ((repeat' first | refine hP _ ?_ | fail); try dsimp only)
  refine ⟨fun c => absurd c (by decide), fun _ => ?_⟩
  ((repeat' first | refine hP _ ?_ | fail); try dsimp only)
  refine m_moves_0 l3 (by rw [e3, gD _ (by decide)]; exact r8) z86 (fun v4 f4 s4 b4 h4 o4 => ?_)
  rw [e3] at s4 b4 h4 o4
  rw [z81] at s4
  rw [z82, z83] at b4
  rw [gD 0 (by decide), gD (8 + 0) (by decide)] at s4
  rw [gD (2 + 0) (by decide)] at b4
  rw [gD (6 + 0) (by decide)] at h4
  have s4' : v4 63 0 = bt_s0 us (v 63) := s4
  have b4' : v4 63 2 = bt_b0 us (v 63) := b4
  have h4' : v4 63 6 = bt_h0 us (v 63) := h4
  have l4 : lw_is v4 us z := lw_is_of l3 (fun k hk => f4 k (by revert k; decide)) (by rw [f4 62 (by decide)])
  ((repeat' first | refine hP _ ?_ | fail); try dsimp only)
  rw [show (0 : Int32) + 1 = 1 from rfl]
  refine ⟨fun c => absurd c (by decide), fun _ => ?_⟩
  ((repeat' first | refine hP _ ?_ | fail); try dsimp only)
  refine m_moves_1 l4 (by rw [o4 _ (by decide) (by decide) (by decide), gD _ (by decide)]; exact r9) (by rw [f4 86 (by decide)]; exact q86) (fun v5 f5 s5 b5 h5 o5 => ?_)
  rw [f4 81 (by decide), q81, o4 1 (by decide) (by decide) (by decide), o4 (8 + 1) (by decide) (by decide) (by decide), gD 1 (by decide), gD (8 + 1) (by decide)] at s5
  rw [f4 82 (by decide), f4 83 (by decide), q82, q83, o4 (2 + 1) (by decide) (by decide) (by decide), gD (2 + 1) (by decide)] at b5
  rw [o4 (6 + 1) (by decide) (by decide) (by decide), gD (6 + 1) (by decide)] at h5
  have s5' : v5 63 1 = bt_s1 us (v 63) := s5
  have b5' : v5 63 3 = bt_b1 us (v 63) := b5
  have h5' : v5 63 7 = bt_h1 us (v 63) := h5
  have s50 : v5 63 0 = bt_s0 us (v 63) := by rw [o5 0 (by decide) (by decide) (by decide), s4']
  have b52 : v5 63 2 = bt_b0 us (v 63) := by rw [o5 2 (by decide) (by decide) (by decide), b4']
  have h56 : v5 63 6 = bt_h0 us (v 63) := by rw [o5 6 (by decide) (by decide) (by decide), h4']
  have o63 : ∀ j, j = 4 ∨ j = 5 ∨ j = 8 ∨ j = 9 ∨ j = 10 ∨ j = 11 ∨ j = 12 → v5 63 j = v 63 j := fun j hj => by
    rw [o5 j (by omega) (by omega) (by omega), o4 j (by omega) (by omega) (by omega), gD j (by omega)]
  have x5 : v5 63 13 = bt_lot (bt_lot (v 63 13)) := by rw [o5 13 (by decide) (by decide) (by decide), o4 13 (by decide) (by decide) (by decide), xD]
  have g5 : ∀ j, j ≠ 63 → v5 j = v3 j := fun j hj => by rw [f5 j hj, f4 j hj]
  ((repeat' first | refine hP _ ?_ | fail); try dsimp only)
  rw [show (1 : Int32) + 1 = 2 from rfl]
  refine ⟨fun _ => ?_, fun c => absurd (by decide) c⟩
  -- they are offended
  ((repeat' first | refine hP _ ?_ | fail); try dsimp only)
  refine ⟨fun c => absurd c (by decide), fun _ => ?_⟩
  refine lp_brD_0 (v := v5) hP (by rw [g5 87 (by decide)]; exact z87) (fun v6 l2' l3' f6 g6 k6 e4 e10 e84 => ?_)
  rw [g5 62 (by decide), g3 62 (by omega)] at e4
  have e4' : v6 63 4 = bt us (v 62 3) (v 62 4) (v 63) 4 := by
    rw [show (63 : Nat) = 63 from rfl] at e4
    refine e4.trans ?_
    show bk_of (v5 63 0) (v5 63 1) (v5 63 2) (v5 63 3) (v5 63 6) (v5 63 7) (v 62 3) (v 62 4) (v5 63 4) = _
    rw [s50, s5', b52, b5', h56, h5', o63 4 (by omega)]
    rfl
  have e10' : v6 63 10 = b2i (lwH (bt_F0 (v 63)) 120 us) := by
    refine e10.trans ?_
    show (if lwH (bt_F0 (v 63)) 120 us = true then 1 else v5 63 10 : Int32) = _
    rw [o63 10 (by omega), g10]
    cases lwH (bt_F0 (v 63)) 120 us <;> rfl
  ((repeat' first | refine hP _ ?_ | fail); try dsimp only)
  rw [show (0 : Int32) + 1 = 1 from rfl]
  refine ⟨fun c => absurd c (by decide), fun _ => ?_⟩
  refine lp_brD_1 (v := v6) hP (by rw [f6 87 (by decide) (by decide), g5 87 (by decide)]; exact q87) (fun v7 l2'' l3'' f7 g7 k7 y4 y10 y84 => ?_)
  rw [f6 62 (by decide) (by decide), g5 62 (by decide), g3 62 (by omega)] at y4
  have y4' : v7 63 5 = bt us (v 62 3) (v 62 4) (v 63) 5 := by
    refine y4.trans ?_
    show bk_of (v6 63 1) (v6 63 0) (v6 63 3) (v6 63 2) (v6 63 7) (v6 63 6) (v 62 3) (v 62 4) (v6 63 5) = _
    rw [g6 1 (by decide) (by decide), g6 0 (by decide) (by decide), g6 3 (by decide) (by decide), g6 2 (by decide) (by decide), g6 7 (by decide) (by decide), g6 6 (by decide) (by decide), g6 5 (by decide) (by decide), s50, s5', b52, b5', h56, h5', o63 5 (by omega)]
    rfl
  have y10' : v7 63 11 = b2i (lwH (bt_F1 (v 63)) 120 us) := by
    refine y10.trans ?_
    show (if lwH (bt_F1 (v 63)) 120 us = true then 1 else v6 63 11 : Int32) = _
    rw [g6 11 (by decide) (by decide), o63 11 (by omega), g11]
    cases lwH (bt_F1 (v 63)) 120 us <;> rfl
  ((repeat' first | refine hP _ ?_ | fail); try dsimp only)
  rw [show (1 : Int32) + 1 = 2 from rfl]
  refine ⟨fun _ => ?_, fun c => absurd (by decide) c⟩
  have j0 : v7 63 0 = bt_s0 us (v 63) := by rw [g7 0 (by decide) (by decide), g6 0 (by decide) (by decide), s50]
  have j1 : v7 63 1 = bt_s1 us (v 63) := by rw [g7 1 (by decide) (by decide), g6 1 (by decide) (by decide), s5']
  have g8 : ∀ j, (j < 63 ∨ 87 < j ∨ (63 < j ∧ j < 78) ∨ j = 85) → v7 j = v j := fun j hj => by
    rw [f7 j (by omega) (by omega), f6 j (by omega) (by omega), g5 j (by omega), g3 j (by omega)]
  refine lp_brE (v := v7) hP (fun v8 f8 p8 q8 t12 t38 t39 t40 t85 => ?_)
  rw [g8 62 (by omega)] at t38 t39 t40 p8
  have th : bt_th (v7 63) = bt_th (bt us (v 62 3) (v 62 4) (v 63)) := by
    unfold bt_th
    rw [j0, j1]
    rfl
  have ap : bt_ap (v7 63) = bt_ap (bt us (v 62 3) (v 62 4) (v 63)) := by
    unfold bt_ap
    rw [j0, j1]
    rfl
  have nr : bt_nr (v7 63) = bt_nr (bt us (v 62 3) (v 62 4) (v 63)) := by
    unfold bt_nr
    rw [j0, j1]
    rfl
  rw [th] at t39
  rw [ap] at t40
  rw [nr] at t85
  refine h v8 (fun k hk => ?_) p8 (fun j hj => ?_) t38 t39 t40 (fun i hi => ?_) (fun i hi => ?_)
  · rw [f8 k (by omega) (by omega) (by omega), g8 k (by omega)]
  · rcases (show j = 0 ∨ j = 1 ∨ j = 2 ∨ j = 3 ∨ j = 4 ∨ j = 5 ∨ j = 6 ∨ j = 7 ∨ j = 8 ∨ j = 9 ∨ j = 10 ∨ j = 11 ∨ j = 12 ∨ j = 13 by omega) with rfl | rfl | rfl | rfl | rfl | rfl | rfl | rfl | rfl | rfl | rfl | rfl | rfl | rfl
    · rw [q8 0 (by decide), j0]
      rfl
    · rw [q8 1 (by decide), j1]
      rfl
    · rw [q8 2 (by decide), g7 2 (by decide) (by decide), g6 2 (by decide) (by decide), b52]
      rfl
    · rw [q8 3 (by decide), g7 3 (by decide) (by decide), g6 3 (by decide) (by decide), b5']
      rfl
    · rw [q8 4 (by decide), g7 4 (by decide) (by decide), e4']
    · rw [q8 5 (by decide), y4']
    · rw [q8 6 (by decide), g7 6 (by decide) (by decide), g6 6 (by decide) (by decide), h56]
      rfl
    · rw [q8 7 (by decide), g7 7 (by decide) (by decide), g6 7 (by decide) (by decide), h5']
      rfl
    · rw [q8 8 (by decide), g7 8 (by decide) (by decide), g6 8 (by decide) (by decide), o63 8 (by omega)]
      rfl
    · rw [q8 9 (by decide), g7 9 (by decide) (by decide), g6 9 (by decide) (by decide), o63 9 (by omega)]
      rfl
    · rw [q8 10 (by decide), g7 10 (by decide) (by decide), e10']
      rfl
    · rw [q8 11 (by decide), y10']
      rfl
    · rw [t12, g7 12 (by decide) (by decide), g6 12 (by decide) (by decide), o63 12 (by omega)]
      rfl
    · rw [q8 13 (by decide), g7 13 (by decide) (by decide), g6 13 (by decide) (by decide), x5]
      rfl
  · rw [t85 i hi, g8 85 (by omega)]
  · rw [f8 84 (by decide) (by decide) (by decide)]
    rcases (show i = 0 ∨ i = 1 by omega) with rfl | rfl
    · rw [k7 0 (by decide), e84, g5 84 (by decide), g3 84 (by omega), show v5 63 (4 + 0) = v 63 (4 + 0) from o63 4 (by omega), show v6 63 (4 + 0) = bt us (v 62 3) (v 62 4) (v 63) (4 + 0) from e4']
    · rw [y84, k6 1 (by decide), g5 84 (by decide), g3 84 (by omega), show v6 63 (4 + 1) = v 63 (4 + 1) by rw [g6 5 (by decide) (by decide)]; exact o63 5 (by omega), show v7 63 (4 + 1) = bt us (v 62 3) (v 62 4) (v 63) (4 + 1) from y4']
end M68
