/-! ===== a breath: the reference ===== -/
theorem nar_b2i (b : Bool) : vp_nar .boolean (b2i b) = b2i b := by
  cases b
  · decide
  · decide
theorem bt_lot_R {x : Int32} (h1 : 0 ≤ x) (h2 : x ≤ 65535) : am_rem (25173 * x + 13849) 65536 = bt_lot x := by
  obtain ⟨n, hn, rfl⟩ := am_nat h1 h2 (n := 65535) rfl
  have e : 25173 * nI n + 13849 = nI (25173 * n + 13849) := by
    rw [show (25173 : Int32) * nI n = nI (25173 * n) from pk_mul 25173 n]
    exact nI_add _ 13849
  unfold bt_lot
  rw [e, pk_andN (by omega) 16 (by decide)]
  have e2 := pk_rem (a := 25173 * n + 13849) (d := 65536) (by omega) (by omega) (by omega)
  exact e2
theorem bt_lot_rng (x : Int32) : 0 ≤ bt_lot x ∧ bt_lot x ≤ 65535 := by
  obtain ⟨j, hj, e⟩ := pk_andE (25173 * x + 13849) (m := 65535) 16 (by decide)
  unfold bt_lot
  rw [e]
  exact ⟨nI_pos' (by omega), nI_le (b := 65535) (by omega) (by omega)⟩
/-- how far apart, who is there, who is nearer -/
def bt_ap (r : Nat → Int32) : Int32 := if r 0 - r 1 < 0 then -(r 0 - r 1) else r 0 - r 1
def bt_th (r : Nat → Int32) : Int32 := if r 0 = 0 ∧ r 1 = 0 then 2 else if r 0 = 0 then 0 else if r 1 = 0 then 1 else -1
def bt_nr (r : Nat → Int32) : Nat := if r 0 < r 1 then 0 else if r 1 < r 0 then 1 else 2
section M66
variable {K : am_K} {I : am_I} {d : Nat} {v : am_V} {w : am_X} {Q : Option Value → am_H → Prop} {us : List lc_U} {z : Nat} {F : Nat → Int32}
set_option maxRecDepth 100000 in
set_option maxHeartbeats 4000000 in
theorem m_feels_0 (h : ∀ v' : am_V, (∀ j, j ≠ 79 → v' j = v j) → (∀ a, a < 10 → v' 79 a = bt_G 0 (v 63 0) (v 63 (1 - 0)) (v 63 (2 + 0)) (v 63 (3 - 0)) (v 63 (4 + 0)) (v 63 (5 - 0)) (v 63 (7 - 0)) (am_rem (v 63 12) 100) (v 80 0) a) → Q none (am_sh, v', w)) : am_run K I am_m (d + 1) 183 [.ref 62, .int 0] (am_sh, v, w) 0 0 Q := by
  refine en_X12_feels rfl ?_
  intro P hP
  ((repeat' first | refine hP _ ?_ | refine ⟨am_vin rfl, ?_⟩ | refine ⟨by decide, ?_⟩ | fail); try dsimp only)
  simp only [am_up_ne _ _ _ (show (63 : Nat) ≠ 79 by decide), am_up_ne _ _ _ (show (80 : Nat) ≠ 79 by decide)]
  refine h _ (fun j hj => by simp only [am_up_ne _ _ _ hj]) (fun a ha => ?_)
  rcases (show a = 0 ∨ a = 1 ∨ a = 2 ∨ a = 3 ∨ a = 4 ∨ a = 5 ∨ a = 6 ∨ a = 7 ∨ a = 8 ∨ a = 9 by omega) with rfl | rfl | rfl | rfl | rfl | rfl | rfl | rfl | rfl | rfl
  all_goals rfl
set_option maxRecDepth 100000 in
set_option maxHeartbeats 4000000 in
theorem m_asks_0 (hl : lw_is v us z) (hF : ∀ a, a < 10 → F a = bt_G 0 (v 63 0) (v 63 (1 - 0)) (v 63 (2 + 0)) (v 63 (3 - 0)) (v 63 (4 + 0)) (v 63 (5 - 0)) (v 63 (7 - 0)) (am_rem (v 63 12) 100) (v 80 0) a) (h : ∀ v' : am_V, (∀ j, j ≠ 78 → j ≠ 79 → j ≠ 81 → j ≠ 82 → j ≠ 83 → j ≠ 86 → j ≠ 87 → v' j = v j) → (∀ i, i ≠ 0 → v' 81 i = v 81 i ∧ v' 82 i = v 82 i ∧ v' 83 i = v 83 i ∧ v' 86 i = v 86 i ∧ v' 87 i = v 87 i) → v' 81 0 = lwA F 102 9 us → v' 82 0 = lwA F 100 90 us → v' 83 0 = lwA F 117 90 us → v' 86 0 = b2i (lwH F 104 us) → v' 87 0 = b2i (lwH F 120 us) → Q none (am_sh, v', w)) : am_run K I am_m (d + 4) 184 [.ref 62, .int 0] (am_sh, v, w) 0 0 Q := by
  refine en_X12_asks rfl ?_
  intro P hP
  have hw : ∀ {u : am_V}, (∀ j, j ≠ 78 → j ≠ 79 → j ≠ 81 → j ≠ 82 → j ≠ 83 → j ≠ 86 → j ≠ 87 → u j = v j) → lw_is u us z := fun hu => lw_is_of hl (fun k hk => hu k (by revert k; decide) (by revert k; decide) (by revert k; decide) (by revert k; decide) (by revert k; decide) (by revert k; decide) (by revert k; decide)) (by rw [hu 62 (by decide) (by decide) (by decide) (by decide) (by decide) (by decide) (by decide)])
  ((repeat' first | refine hP _ ?_ | fail); try dsimp only)
  refine m_feels_0 (fun v0 f0 F0 => ?_)
  have F0' : ∀ a, a < 10 → v0 79 a = F a := fun a ha => by rw [F0 a ha, hF a ha]
  have g0 : ∀ j, j ≠ 78 → j ≠ 79 → j ≠ 81 → j ≠ 82 → j ≠ 83 → j ≠ 86 → j ≠ 87 → v0 j = v j := fun j _ h9 _ _ _ _ _ => f0 j h9
  ((repeat' first | refine hP _ ?_ | fail); try dsimp only)
  refine m_byLaw (l := 102) (hw g0) (Or.inl rfl) F0' (by decide) (fun v1 f1 => ?_)
  ((repeat' first | refine hP _ ?_ | fail); try dsimp only)
  refine ⟨am_vin rfl, ?_⟩
  dsimp only
  generalize hv2 : am_up v1 81 (Int32.toNatClampNeg 0) (lwA F 102 9 us) = v2
  have g2 : ∀ j, j ≠ 78 → j ≠ 79 → j ≠ 81 → j ≠ 82 → j ≠ 83 → j ≠ 86 → j ≠ 87 → v2 j = v j := fun j h1 h2 h3 h4 h5 h6 h7 => by rw [← hv2, am_up_ne _ _ _ h3, f1 j h1, g0 j h1 h2 h3 h4 h5 h6 h7]
  have F2 : ∀ a, a < 10 → v2 79 a = F a := fun a ha => by rw [← hv2, am_up_ne _ _ _ (by decide), f1 _ (by decide), F0' a ha]
  ((repeat' first | refine hP _ ?_ | fail); try dsimp only)
  refine m_byLaw (l := 100) (hw g2) (Or.inr (Or.inl rfl)) F2 (by decide) (fun v3 f3 => ?_)
  ((repeat' first | refine hP _ ?_ | fail); try dsimp only)
  refine ⟨am_vin rfl, ?_⟩
  dsimp only
  generalize hv4 : am_up v3 82 (Int32.toNatClampNeg 0) (lwA F 100 90 us) = v4
  have g4 : ∀ j, j ≠ 78 → j ≠ 79 → j ≠ 81 → j ≠ 82 → j ≠ 83 → j ≠ 86 → j ≠ 87 → v4 j = v j := fun j h1 h2 h3 h4 h5 h6 h7 => by rw [← hv4, am_up_ne _ _ _ h4, f3 j h1, g2 j h1 h2 h3 h4 h5 h6 h7]
  have F4 : ∀ a, a < 10 → v4 79 a = F a := fun a ha => by rw [← hv4, am_up_ne _ _ _ (by decide), f3 _ (by decide), F2 a ha]
  ((repeat' first | refine hP _ ?_ | fail); try dsimp only)
  refine m_byLaw (l := 117) (hw g4) (Or.inr (Or.inr rfl)) F4 (by decide) (fun v5 f5 => ?_)
  ((repeat' first | refine hP _ ?_ | fail); try dsimp only)
  refine ⟨am_vin rfl, ?_⟩
  dsimp only
  generalize hv6 : am_up v5 83 (Int32.toNatClampNeg 0) (lwA F 117 90 us) = v6
  have g6 : ∀ j, j ≠ 78 → j ≠ 79 → j ≠ 81 → j ≠ 82 → j ≠ 83 → j ≠ 86 → j ≠ 87 → v6 j = v j := fun j h1 h2 h3 h4 h5 h6 h7 => by rw [← hv6, am_up_ne _ _ _ h5, f5 j h1, g4 j h1 h2 h3 h4 h5 h6 h7]
  have F6 : ∀ a, a < 10 → v6 79 a = F a := fun a ha => by rw [← hv6, am_up_ne _ _ _ (by decide), f5 _ (by decide), F4 a ha]
  ((repeat' first | refine hP _ ?_ | fail); try dsimp only)
  refine m_holdsAny (l := 104) (hw g6) (by decide) F6 (fun v7 f7 => ?_)
  ((repeat' first | refine hP _ ?_ | fail); try dsimp only)
  refine ⟨am_vin rfl, ?_⟩
  dsimp only
  rw [nar_b2i]
  generalize hv8 : am_up v7 86 (Int32.toNatClampNeg 0) (b2i (lwH F 104 us)) = v8
  have g8 : ∀ j, j ≠ 78 → j ≠ 79 → j ≠ 81 → j ≠ 82 → j ≠ 83 → j ≠ 86 → j ≠ 87 → v8 j = v j := fun j h1 h2 h3 h4 h5 h6 h7 => by rw [← hv8, am_up_ne _ _ _ h6, f7 j h1, g6 j h1 h2 h3 h4 h5 h6 h7]
  have F8 : ∀ a, a < 10 → v8 79 a = F a := fun a ha => by rw [← hv8, am_up_ne _ _ _ (by decide), f7 _ (by decide), F6 a ha]
  ((repeat' first | refine hP _ ?_ | fail); try dsimp only)
  refine m_holdsAny (l := 120) (hw g8) (by decide) F8 (fun v9 f9 => ?_)
  ((repeat' first | refine hP _ ?_ | fail); try dsimp only)
  refine ⟨am_vin rfl, ?_⟩
  dsimp only
  rw [nar_b2i]
  ((repeat' first | refine hP _ ?_ | fail); try dsimp only)
  have e : Int32.toNatClampNeg 0 = 0 := rfl
  rw [e] at hv2 hv4 hv6 hv8
  rw [e]
  have o81 : ∀ i, am_up v9 87 0 (b2i (lwH F 120 us)) 81 i = am_up v1 81 0 (lwA F 102 9 us) 81 i := fun i => by rw [am_up_ne _ _ _ (by decide), f9 _ (by decide), ← hv8, am_up_ne _ _ _ (by decide), f7 _ (by decide), ← hv6, am_up_ne _ _ _ (by decide), f5 _ (by decide), ← hv4, am_up_ne _ _ _ (by decide), f3 _ (by decide), ← hv2]
  have o82 : ∀ i, am_up v9 87 0 (b2i (lwH F 120 us)) 82 i = am_up v3 82 0 (lwA F 100 90 us) 82 i := fun i => by rw [am_up_ne _ _ _ (by decide), f9 _ (by decide), ← hv8, am_up_ne _ _ _ (by decide), f7 _ (by decide), ← hv6, am_up_ne _ _ _ (by decide), f5 _ (by decide), ← hv4]
  have o83 : ∀ i, am_up v9 87 0 (b2i (lwH F 120 us)) 83 i = am_up v5 83 0 (lwA F 117 90 us) 83 i := fun i => by rw [am_up_ne _ _ _ (by decide), f9 _ (by decide), ← hv8, am_up_ne _ _ _ (by decide), f7 _ (by decide), ← hv6]
  have o86 : ∀ i, am_up v9 87 0 (b2i (lwH F 120 us)) 86 i = am_up v7 86 0 (b2i (lwH F 104 us)) 86 i := fun i => by rw [am_up_ne _ _ _ (by decide), f9 _ (by decide), ← hv8]
  have p82 : v3 82 = v 82 := by rw [f3 _ (by decide), ← hv2, am_up_ne _ _ _ (by decide), f1 _ (by decide), f0 _ (by decide)]
  have p83 : v5 83 = v 83 := by rw [f5 _ (by decide), ← hv4, am_up_ne _ _ _ (by decide), f3 _ (by decide), ← hv2, am_up_ne _ _ _ (by decide), f1 _ (by decide), f0 _ (by decide)]
  have p86 : v7 86 = v 86 := by rw [f7 _ (by decide), ← hv6, am_up_ne _ _ _ (by decide), f5 _ (by decide), ← hv4, am_up_ne _ _ _ (by decide), f3 _ (by decide), ← hv2, am_up_ne _ _ _ (by decide), f1 _ (by decide), f0 _ (by decide)]
  have p87 : v9 87 = v 87 := by rw [f9 _ (by decide), ← hv8, am_up_ne _ _ _ (by decide), f7 _ (by decide), ← hv6, am_up_ne _ _ _ (by decide), f5 _ (by decide), ← hv4, am_up_ne _ _ _ (by decide), f3 _ (by decide), ← hv2, am_up_ne _ _ _ (by decide), f1 _ (by decide), f0 _ (by decide)]
  have p81 : v1 81 = v 81 := by rw [f1 _ (by decide), f0 _ (by decide)]
  refine h _ (fun j h1 h2 h3 h4 h5 h6 h7 => ?_) (fun i hi => ⟨?_, ?_, ?_, ?_, ?_⟩) ?_ ?_ ?_ ?_ ?_
  · rw [am_up_ne _ _ _ h7, f9 j h1, g8 j h1 h2 h3 h4 h5 h6 h7]
  · rw [o81, am_up_eq, if_neg (fun q => hi q.2), p81]
  · rw [o82, am_up_eq, if_neg (fun q => hi q.2), p82]
  · rw [o83, am_up_eq, if_neg (fun q => hi q.2), p83]
  · rw [o86, am_up_eq, if_neg (fun q => hi q.2), p86]
  · rw [am_up_eq, if_neg (fun q => hi q.2), p87]
  · rw [o81, am_up_eq, if_pos ⟨rfl, rfl⟩]
  · rw [o82, am_up_eq, if_pos ⟨rfl, rfl⟩]
  · rw [o83, am_up_eq, if_pos ⟨rfl, rfl⟩]
  · rw [o86, am_up_eq, if_pos ⟨rfl, rfl⟩]
  · rw [am_up_eq, if_pos ⟨rfl, rfl⟩]
set_option maxRecDepth 100000 in
set_option maxHeartbeats 4000000 in
theorem m_moves_0 (hl : lw_is v us z) (hb : iv_bit (v 63 (8 + 0))) {H : Bool} (hH : v 86 0 = b2i H) (h : ∀ v' : am_V, (∀ j, j ≠ 63 → v' j = v j) → v' 63 0 = bk_st (v 63 0) (v 81 0) (v 63 (8 + 0)) → v' 63 (2 + 0) = bk_bw (v 63 (2 + 0)) (v 82 0) (v 83 0) → v' 63 (6 + 0) = (if lwS 104 us = true then (if H = true then 0 else 1) else v 63 (6 + 0)) → (∀ j, j ≠ 0 → j ≠ 2 + 0 → j ≠ 6 + 0 → v' 63 j = v 63 j) → Q none (am_sh, v', w)) : am_run K I am_m (d + 2) 185 [.ref 62, .int 0] (am_sh, v, w) 0 0 Q := by
  refine en_X12_moves rfl ?_
  intro P hP
  have go : ∀ f : Int32, f = (if v 63 (8 + 0) = 0 then v 81 0 else v 81 0 / 2) → P (cd_X12_moves.drop 19, [some (.ref 62), some (.int 0), none], [.int f], (am_sh, v, w), 0, 0) := by
    intro f hf
    ((repeat' first | refine hP _ ?_ | fail); try dsimp only)
    refine ⟨am_vin rfl, ?_⟩
    ((repeat' first | refine hP _ ?_ | fail); try dsimp only)
    refine m_X12_max ?_
    rw [f_mx2]
    ((repeat' first | refine hP _ ?_ | fail); try dsimp only)
    refine ⟨am_vin rfl, ?_⟩
    dsimp only
    rw [show f_mx 0 (v 63 (Int32.toNatClampNeg (0 + 0)) - f) = bk_st (v 63 0) (v 81 0) (v 63 (8 + 0)) by rw [hf]; rfl, show Int32.toNatClampNeg (0 + 0) = 0 from rfl]
    generalize hv1 : am_up v 63 0 (bk_st (v 63 0) (v 81 0) (v 63 (8 + 0))) = v1
    have f1 : ∀ j, j ≠ 63 → v1 j = v j := fun j hj => by rw [← hv1, am_up_ne _ _ _ hj]
    ((repeat' first | refine hP _ ?_ | fail); try dsimp only)
    refine ⟨am_vin rfl, ?_⟩
    ((repeat' first | refine hP _ ?_ | fail); try dsimp only)
    refine ⟨am_vin rfl, ?_⟩
    ((repeat' first | refine hP _ ?_ | fail); try dsimp only)
    refine ⟨am_vin rfl, ?_⟩
    ((repeat' first | refine hP _ ?_ | fail); try dsimp only)
    refine m_X12_min ?_
    rw [f_mn2]
    ((repeat' first | refine hP _ ?_ | fail); try dsimp only)
    refine m_X12_max ?_
    rw [f_mx2]
    ((repeat' first | refine hP _ ?_ | fail); try dsimp only)
    refine ⟨am_vin rfl, ?_⟩
    dsimp only
    rw [show Int32.toNatClampNeg (2 + 0) = 2 + 0 from rfl, show Int32.toNatClampNeg 0 = 0 from rfl, f1 82 (by decide), f1 83 (by decide), show v1 63 (2 + 0) = v 63 (2 + 0) by rw [← hv1, am_up_eq, if_neg (by decide)]]
    generalize hv2 : am_up v1 63 (2 + 0) _ = v2
    have f2 : ∀ j, j ≠ 63 → v2 j = v j := fun j hj => by rw [← hv2, am_up_ne _ _ _ hj, f1 j hj]
    have l2 : lw_is v2 us z := lw_is_of hl (fun k hk => f2 k (by revert k; decide)) (by rw [f2 62 (by decide)])
    have e0 : v2 63 0 = bk_st (v 63 0) (v 81 0) (v 63 (8 + 0)) := by rw [← hv2, am_up_eq, if_neg (by decide), ← hv1, am_up_eq, if_pos ⟨rfl, rfl⟩]
    have e2 : v2 63 (2 + 0) = bk_bw (v 63 (2 + 0)) (v 82 0) (v 83 0) := by
      rw [← hv2, am_up_eq, if_pos ⟨rfl, rfl⟩]
      rfl
    have eo : ∀ j, j ≠ 0 → j ≠ 2 + 0 → v2 63 j = v 63 j := fun j h1 h2 => by rw [← hv2, am_up_eq, if_neg (fun q => h2 q.2), ← hv1, am_up_eq, if_neg (fun q => h1 q.2)]
    ((repeat' first | refine hP _ ?_ | fail); try dsimp only)
    refine m_hasRule (l := 104) l2 (by decide) ?_
    ((repeat' first | refine hP _ ?_ | fail); try dsimp only)
    cases hS : lwS 104 us with
    | false =>
      rw [hS] at h
      refine ⟨fun _ => ?_, fun c => absurd rfl c⟩
      ((repeat' first | refine hP _ ?_ | fail); try dsimp only)
      exact h v2 f2 e0 e2 (by rw [eo _ (by decide) (by decide)]; rfl) (fun j h1 h2 _ => eo j h1 h2)
    | true =>
      rw [hS] at h
      refine ⟨fun c => absurd c (by decide), fun _ => ?_⟩
      ((repeat' first | refine hP _ ?_ | fail); try dsimp only)
      refine ⟨am_vin rfl, ?_⟩
      ((repeat' first | refine hP _ ?_ | fail); try dsimp only)
      rw [show Int32.toNatClampNeg 0 = 0 from rfl, f2 86 (by decide), hH]
      have fin : ∀ y : Int32, y = (if H = true then 0 else 1) → Q none (am_sh, am_up v2 63 (6 + 0) y, w) := by
        intro y hy
        refine h _ (fun j hj => by rw [am_up_ne _ _ _ hj, f2 j hj]) ?_ ?_ ?_ (fun j h1 h2 h3 => ?_)
        · rw [am_up_eq, if_neg (by decide), e0]
        · rw [am_up_eq, if_neg (by decide), e2]
        · rw [am_up_eq, if_pos ⟨rfl, rfl⟩, hy]
          rfl
        · rw [am_up_eq, if_neg (fun q => h3 q.2), eo j h1 h2]
      cases H with
      | true =>
        refine ⟨fun c => absurd c (by decide), fun _ => ?_⟩
        ((repeat' first | refine hP _ ?_ | fail); try dsimp only)
        refine ⟨am_vin rfl, ?_⟩
        ((repeat' first | refine hP _ ?_ | fail); try dsimp only)
        exact fin 0 rfl
      | false =>
        refine ⟨fun _ => ?_, fun c => absurd rfl c⟩
        ((repeat' first | refine hP _ ?_ | fail); try dsimp only)
        refine ⟨am_vin rfl, ?_⟩
        ((repeat' first | refine hP _ ?_ | fail); try dsimp only)
        exact fin 1 rfl
  ((repeat' first | refine hP _ ?_ | fail); try dsimp only)
  refine ⟨am_vin rfl, ?_⟩
  ((repeat' first | refine hP _ ?_ | fail); try dsimp only)
  rw [show Int32.toNatClampNeg (8 + 0) = 8 + 0 from rfl]
  refine ⟨fun c => ?_, fun c => ?_⟩
  · have c0 : v 63 (8 + 0) = 0 := hb.elim id (fun q => absurd q c)
    ((repeat' first | refine hP _ ?_ | fail); try dsimp only)
    refine ⟨am_vin rfl, ?_⟩
    dsimp only
    exact go _ (by rw [if_pos c0]; rfl)
  · ((repeat' first | refine hP _ ?_ | fail); try dsimp only)
    refine ⟨am_vin rfl, ?_⟩
    ((repeat' first | refine hP _ ?_ | fail); try dsimp only)
    refine ⟨by decide, ?_⟩
    ((iterate 1 refine hP _ ?_); try dsimp only)
    exact go _ (by rw [if_neg (fun q => absurd (q.symm.trans c) (by decide))]; rfl)
set_option maxRecDepth 100000 in
set_option maxHeartbeats 4000000 in
theorem m_offTo_0 (h : Q (some (.int (bk_mo (v 63 0) (v 63 (1 - 0)) (v 63 (2 + 0)) (v 63 (3 - 0)) (v 63 (6 + 0)) (v 63 (7 - 0)) (v 62 3) (v 62 4)))) (am_sh, v, w)) : am_run K I am_m (d + 1) 186 [.ref 62, .int 0] (am_sh, v, w) 0 0 Q := by
  unfold bk_mo at h
  refine en_X12_offenceTo rfl ?_
  intro P hP
  have last : ∀ s : Int32, Q (some (.int (s + (if v 63 (6 + 0) = 0 ∧ v 63 (7 - 0) = 1 then 1 else 0)))) (am_sh, v, w) → P (cd_X12_offenceTo.drop 70, [some (.ref 62), some (.int 0), some (.int (1 - 0)), some (.int s)], [], (am_sh, v, w), 0, 0) := by
    intro s h
    ((repeat' first | refine hP _ ?_ | fail); try dsimp only)
    refine ⟨am_vin rfl, ?_⟩
    ((repeat' first | refine hP _ ?_ | fail); try dsimp only)
    rw [show Int32.toNatClampNeg (6 + 0) = 6 + 0 from rfl]
    refine ⟨fun c => ?_, fun c => ?_⟩
    · rw [if_neg (fun q => c q.1), Int32.add_zero] at h
      ((repeat' first | refine hP _ ?_ | fail); try dsimp only)
      exact h
    · ((repeat' first | refine hP _ ?_ | fail); try dsimp only)
      refine ⟨am_vin rfl, ?_⟩
      ((repeat' first | refine hP _ ?_ | fail); try dsimp only)
      rw [show Int32.toNatClampNeg (6 + (1 - 0)) = 7 - 0 from rfl]
      refine ⟨fun c2 => ?_, fun c2 => ?_⟩
      · rw [if_neg (fun q => c2 q.2), Int32.add_zero] at h
        ((repeat' first | refine hP _ ?_ | fail); try dsimp only)
        exact h
      · rw [if_pos ⟨c, c2⟩] at h
        ((repeat' first | refine hP _ ?_ | fail); try dsimp only)
        exact h
  have mid : ∀ s : Int32, s = (if v 62 3 < v 63 0 - v 63 (1 - 0) then v 63 0 - v 63 (1 - 0) else 0) → P (cd_X12_offenceTo.drop 38, [some (.ref 62), some (.int 0), some (.int (1 - 0)), some (.int s)], [], (am_sh, v, w), 0, 0) := by
    intro s hs
    rw [← hs] at h
    ((repeat' first | refine hP _ ?_ | fail); try dsimp only)
    refine ⟨am_vin rfl, ?_⟩
    ((repeat' first | refine hP _ ?_ | fail); try dsimp only)
    refine ⟨am_vin rfl, ?_⟩
    ((repeat' first | refine hP _ ?_ | fail); try dsimp only)
    rw [show Int32.toNatClampNeg (2 + 0) = 2 + 0 from rfl, show Int32.toNatClampNeg (2 + (1 - 0)) = 3 - 0 from rfl]
    refine ⟨fun c => ?_, fun c => ?_⟩
    · rw [if_neg (Int32.not_lt.mpr c), Int32.add_zero] at h
      exact last s h
    · rw [if_pos (Int32.not_le.mp c)] at h
      ((repeat' first | refine hP _ ?_ | fail); try dsimp only)
      refine ⟨am_vin rfl, ?_⟩
      ((repeat' first | refine hP _ ?_ | fail); try dsimp only)
      refine ⟨am_vin rfl, ?_⟩
      dsimp only
      ((iterate 2 refine hP _ ?_); try dsimp only)
      rw [show Int32.toNatClampNeg (2 + 0) = 2 + 0 from rfl, show Int32.toNatClampNeg (2 + (1 - 0)) = 3 - 0 from rfl]
      refine last _ ?_
      rw [show s + v 63 (2 + 0) - v 63 (3 - 0) = s + (v 63 (2 + 0) - v 63 (3 - 0)) by rw [Int32.sub_eq_add_neg, Int32.sub_eq_add_neg, Int32.add_assoc]]
      exact h
  ((repeat' first | refine hP _ ?_ | fail); try dsimp only)
  refine ⟨am_vin rfl, ?_⟩
  ((repeat' first | refine hP _ ?_ | fail); try dsimp only)
  refine ⟨am_vin rfl, ?_⟩
  ((repeat' first | refine hP _ ?_ | fail); try dsimp only)
  rw [show Int32.toNatClampNeg (0 + 0) = 0 from rfl, show Int32.toNatClampNeg (0 + (1 - 0)) = 1 - 0 from rfl]
  refine ⟨fun c => ?_, fun c => ?_⟩
  · exact mid 0 (by rw [if_neg (Int32.not_lt.mpr c)])
  · ((repeat' first | refine hP _ ?_ | fail); try dsimp only)
    refine ⟨am_vin rfl, ?_⟩
    ((repeat' first | refine hP _ ?_ | fail); try dsimp only)
    refine ⟨am_vin rfl, ?_⟩
    dsimp only
    ((iterate 2 refine hP _ ?_); try dsimp only)
    rw [show Int32.toNatClampNeg (0 + 0) = 0 from rfl, show Int32.toNatClampNeg (0 + (1 - 0)) = 1 - 0 from rfl, Int32.zero_add]
    exact mid _ (by rw [if_pos (Int32.not_le.mp c)])
set_option maxRecDepth 100000 in
set_option maxHeartbeats 4000000 in
theorem m_feels_1 (h : ∀ v' : am_V, (∀ j, j ≠ 79 → v' j = v j) → (∀ a, a < 10 → v' 79 a = bt_G 1 (v 63 1) (v 63 (1 - 1)) (v 63 (2 + 1)) (v 63 (3 - 1)) (v 63 (4 + 1)) (v 63 (5 - 1)) (v 63 (7 - 1)) (am_rem (v 63 12) 100) (v 80 1) a) → Q none (am_sh, v', w)) : am_run K I am_m (d + 1) 183 [.ref 62, .int 1] (am_sh, v, w) 0 0 Q := by
  refine en_X12_feels rfl ?_
  intro P hP
  ((repeat' first | refine hP _ ?_ | refine ⟨am_vin rfl, ?_⟩ | refine ⟨by decide, ?_⟩ | fail); try dsimp only)
  simp only [am_up_ne _ _ _ (show (63 : Nat) ≠ 79 by decide), am_up_ne _ _ _ (show (80 : Nat) ≠ 79 by decide)]
  refine h _ (fun j hj => by simp only [am_up_ne _ _ _ hj]) (fun a ha => ?_)
  rcases (show a = 0 ∨ a = 1 ∨ a = 2 ∨ a = 3 ∨ a = 4 ∨ a = 5 ∨ a = 6 ∨ a = 7 ∨ a = 8 ∨ a = 9 by omega) with rfl | rfl | rfl | rfl | rfl | rfl | rfl | rfl | rfl | rfl
  all_goals rfl
set_option maxRecDepth 100000 in
set_option maxHeartbeats 4000000 in
theorem m_asks_1 (hl : lw_is v us z) (hF : ∀ a, a < 10 → F a = bt_G 1 (v 63 1) (v 63 (1 - 1)) (v 63 (2 + 1)) (v 63 (3 - 1)) (v 63 (4 + 1)) (v 63 (5 - 1)) (v 63 (7 - 1)) (am_rem (v 63 12) 100) (v 80 1) a) (h : ∀ v' : am_V, (∀ j, j ≠ 78 → j ≠ 79 → j ≠ 81 → j ≠ 82 → j ≠ 83 → j ≠ 86 → j ≠ 87 → v' j = v j) → (∀ i, i ≠ 1 → v' 81 i = v 81 i ∧ v' 82 i = v 82 i ∧ v' 83 i = v 83 i ∧ v' 86 i = v 86 i ∧ v' 87 i = v 87 i) → v' 81 1 = lwA F 102 9 us → v' 82 1 = lwA F 100 90 us → v' 83 1 = lwA F 117 90 us → v' 86 1 = b2i (lwH F 104 us) → v' 87 1 = b2i (lwH F 120 us) → Q none (am_sh, v', w)) : am_run K I am_m (d + 4) 184 [.ref 62, .int 1] (am_sh, v, w) 0 0 Q := by
  refine en_X12_asks rfl ?_
  intro P hP
  have hw : ∀ {u : am_V}, (∀ j, j ≠ 78 → j ≠ 79 → j ≠ 81 → j ≠ 82 → j ≠ 83 → j ≠ 86 → j ≠ 87 → u j = v j) → lw_is u us z := fun hu => lw_is_of hl (fun k hk => hu k (by revert k; decide) (by revert k; decide) (by revert k; decide) (by revert k; decide) (by revert k; decide) (by revert k; decide) (by revert k; decide)) (by rw [hu 62 (by decide) (by decide) (by decide) (by decide) (by decide) (by decide) (by decide)])
  ((repeat' first | refine hP _ ?_ | fail); try dsimp only)
  refine m_feels_1 (fun v0 f0 F0 => ?_)
  have F0' : ∀ a, a < 10 → v0 79 a = F a := fun a ha => by rw [F0 a ha, hF a ha]
  have g0 : ∀ j, j ≠ 78 → j ≠ 79 → j ≠ 81 → j ≠ 82 → j ≠ 83 → j ≠ 86 → j ≠ 87 → v0 j = v j := fun j _ h9 _ _ _ _ _ => f0 j h9
  ((repeat' first | refine hP _ ?_ | fail); try dsimp only)
  refine m_byLaw (l := 102) (hw g0) (Or.inl rfl) F0' (by decide) (fun v1 f1 => ?_)
  ((repeat' first | refine hP _ ?_ | fail); try dsimp only)
  refine ⟨am_vin rfl, ?_⟩
  dsimp only
  generalize hv2 : am_up v1 81 (Int32.toNatClampNeg 1) (lwA F 102 9 us) = v2
  have g2 : ∀ j, j ≠ 78 → j ≠ 79 → j ≠ 81 → j ≠ 82 → j ≠ 83 → j ≠ 86 → j ≠ 87 → v2 j = v j := fun j h1 h2 h3 h4 h5 h6 h7 => by rw [← hv2, am_up_ne _ _ _ h3, f1 j h1, g0 j h1 h2 h3 h4 h5 h6 h7]
  have F2 : ∀ a, a < 10 → v2 79 a = F a := fun a ha => by rw [← hv2, am_up_ne _ _ _ (by decide), f1 _ (by decide), F0' a ha]
  ((repeat' first | refine hP _ ?_ | fail); try dsimp only)
  refine m_byLaw (l := 100) (hw g2) (Or.inr (Or.inl rfl)) F2 (by decide) (fun v3 f3 => ?_)
  ((repeat' first | refine hP _ ?_ | fail); try dsimp only)
  refine ⟨am_vin rfl, ?_⟩
  dsimp only
  generalize hv4 : am_up v3 82 (Int32.toNatClampNeg 1) (lwA F 100 90 us) = v4
  have g4 : ∀ j, j ≠ 78 → j ≠ 79 → j ≠ 81 → j ≠ 82 → j ≠ 83 → j ≠ 86 → j ≠ 87 → v4 j = v j := fun j h1 h2 h3 h4 h5 h6 h7 => by rw [← hv4, am_up_ne _ _ _ h4, f3 j h1, g2 j h1 h2 h3 h4 h5 h6 h7]
  have F4 : ∀ a, a < 10 → v4 79 a = F a := fun a ha => by rw [← hv4, am_up_ne _ _ _ (by decide), f3 _ (by decide), F2 a ha]
  ((repeat' first | refine hP _ ?_ | fail); try dsimp only)
  refine m_byLaw (l := 117) (hw g4) (Or.inr (Or.inr rfl)) F4 (by decide) (fun v5 f5 => ?_)
  ((repeat' first | refine hP _ ?_ | fail); try dsimp only)
  refine ⟨am_vin rfl, ?_⟩
  dsimp only
  generalize hv6 : am_up v5 83 (Int32.toNatClampNeg 1) (lwA F 117 90 us) = v6
  have g6 : ∀ j, j ≠ 78 → j ≠ 79 → j ≠ 81 → j ≠ 82 → j ≠ 83 → j ≠ 86 → j ≠ 87 → v6 j = v j := fun j h1 h2 h3 h4 h5 h6 h7 => by rw [← hv6, am_up_ne _ _ _ h5, f5 j h1, g4 j h1 h2 h3 h4 h5 h6 h7]
  have F6 : ∀ a, a < 10 → v6 79 a = F a := fun a ha => by rw [← hv6, am_up_ne _ _ _ (by decide), f5 _ (by decide), F4 a ha]
  ((repeat' first | refine hP _ ?_ | fail); try dsimp only)
  refine m_holdsAny (l := 104) (hw g6) (by decide) F6 (fun v7 f7 => ?_)
  ((repeat' first | refine hP _ ?_ | fail); try dsimp only)
  refine ⟨am_vin rfl, ?_⟩
  dsimp only
  rw [nar_b2i]
  generalize hv8 : am_up v7 86 (Int32.toNatClampNeg 1) (b2i (lwH F 104 us)) = v8
  have g8 : ∀ j, j ≠ 78 → j ≠ 79 → j ≠ 81 → j ≠ 82 → j ≠ 83 → j ≠ 86 → j ≠ 87 → v8 j = v j := fun j h1 h2 h3 h4 h5 h6 h7 => by rw [← hv8, am_up_ne _ _ _ h6, f7 j h1, g6 j h1 h2 h3 h4 h5 h6 h7]
  have F8 : ∀ a, a < 10 → v8 79 a = F a := fun a ha => by rw [← hv8, am_up_ne _ _ _ (by decide), f7 _ (by decide), F6 a ha]
  ((repeat' first | refine hP _ ?_ | fail); try dsimp only)
  refine m_holdsAny (l := 120) (hw g8) (by decide) F8 (fun v9 f9 => ?_)
  ((repeat' first | refine hP _ ?_ | fail); try dsimp only)
  refine ⟨am_vin rfl, ?_⟩
  dsimp only
  rw [nar_b2i]
  ((repeat' first | refine hP _ ?_ | fail); try dsimp only)
  have e : Int32.toNatClampNeg 1 = 1 := rfl
  rw [e] at hv2 hv4 hv6 hv8
  rw [e]
  have o81 : ∀ i, am_up v9 87 1 (b2i (lwH F 120 us)) 81 i = am_up v1 81 1 (lwA F 102 9 us) 81 i := fun i => by rw [am_up_ne _ _ _ (by decide), f9 _ (by decide), ← hv8, am_up_ne _ _ _ (by decide), f7 _ (by decide), ← hv6, am_up_ne _ _ _ (by decide), f5 _ (by decide), ← hv4, am_up_ne _ _ _ (by decide), f3 _ (by decide), ← hv2]
  have o82 : ∀ i, am_up v9 87 1 (b2i (lwH F 120 us)) 82 i = am_up v3 82 1 (lwA F 100 90 us) 82 i := fun i => by rw [am_up_ne _ _ _ (by decide), f9 _ (by decide), ← hv8, am_up_ne _ _ _ (by decide), f7 _ (by decide), ← hv6, am_up_ne _ _ _ (by decide), f5 _ (by decide), ← hv4]
  have o83 : ∀ i, am_up v9 87 1 (b2i (lwH F 120 us)) 83 i = am_up v5 83 1 (lwA F 117 90 us) 83 i := fun i => by rw [am_up_ne _ _ _ (by decide), f9 _ (by decide), ← hv8, am_up_ne _ _ _ (by decide), f7 _ (by decide), ← hv6]
  have o86 : ∀ i, am_up v9 87 1 (b2i (lwH F 120 us)) 86 i = am_up v7 86 1 (b2i (lwH F 104 us)) 86 i := fun i => by rw [am_up_ne _ _ _ (by decide), f9 _ (by decide), ← hv8]
  have p82 : v3 82 = v 82 := by rw [f3 _ (by decide), ← hv2, am_up_ne _ _ _ (by decide), f1 _ (by decide), f0 _ (by decide)]
  have p83 : v5 83 = v 83 := by rw [f5 _ (by decide), ← hv4, am_up_ne _ _ _ (by decide), f3 _ (by decide), ← hv2, am_up_ne _ _ _ (by decide), f1 _ (by decide), f0 _ (by decide)]
  have p86 : v7 86 = v 86 := by rw [f7 _ (by decide), ← hv6, am_up_ne _ _ _ (by decide), f5 _ (by decide), ← hv4, am_up_ne _ _ _ (by decide), f3 _ (by decide), ← hv2, am_up_ne _ _ _ (by decide), f1 _ (by decide), f0 _ (by decide)]
  have p87 : v9 87 = v 87 := by rw [f9 _ (by decide), ← hv8, am_up_ne _ _ _ (by decide), f7 _ (by decide), ← hv6, am_up_ne _ _ _ (by decide), f5 _ (by decide), ← hv4, am_up_ne _ _ _ (by decide), f3 _ (by decide), ← hv2, am_up_ne _ _ _ (by decide), f1 _ (by decide), f0 _ (by decide)]
  have p81 : v1 81 = v 81 := by rw [f1 _ (by decide), f0 _ (by decide)]
  refine h _ (fun j h1 h2 h3 h4 h5 h6 h7 => ?_) (fun i hi => ⟨?_, ?_, ?_, ?_, ?_⟩) ?_ ?_ ?_ ?_ ?_
  · rw [am_up_ne _ _ _ h7, f9 j h1, g8 j h1 h2 h3 h4 h5 h6 h7]
  · rw [o81, am_up_eq, if_neg (fun q => hi q.2), p81]
  · rw [o82, am_up_eq, if_neg (fun q => hi q.2), p82]
  · rw [o83, am_up_eq, if_neg (fun q => hi q.2), p83]
  · rw [o86, am_up_eq, if_neg (fun q => hi q.2), p86]
  · rw [am_up_eq, if_neg (fun q => hi q.2), p87]
  · rw [o81, am_up_eq, if_pos ⟨rfl, rfl⟩]
  · rw [o82, am_up_eq, if_pos ⟨rfl, rfl⟩]
  · rw [o83, am_up_eq, if_pos ⟨rfl, rfl⟩]
  · rw [o86, am_up_eq, if_pos ⟨rfl, rfl⟩]
  · rw [am_up_eq, if_pos ⟨rfl, rfl⟩]
set_option maxRecDepth 100000 in
set_option maxHeartbeats 4000000 in
theorem m_moves_1 (hl : lw_is v us z) (hb : iv_bit (v 63 (8 + 1))) {H : Bool} (hH : v 86 1 = b2i H) (h : ∀ v' : am_V, (∀ j, j ≠ 63 → v' j = v j) → v' 63 1 = bk_st (v 63 1) (v 81 1) (v 63 (8 + 1)) → v' 63 (2 + 1) = bk_bw (v 63 (2 + 1)) (v 82 1) (v 83 1) → v' 63 (6 + 1) = (if lwS 104 us = true then (if H = true then 0 else 1) else v 63 (6 + 1)) → (∀ j, j ≠ 1 → j ≠ 2 + 1 → j ≠ 6 + 1 → v' 63 j = v 63 j) → Q none (am_sh, v', w)) : am_run K I am_m (d + 2) 185 [.ref 62, .int 1] (am_sh, v, w) 0 0 Q := by
  refine en_X12_moves rfl ?_
  intro P hP
  have go : ∀ f : Int32, f = (if v 63 (8 + 1) = 0 then v 81 1 else v 81 1 / 2) → P (cd_X12_moves.drop 19, [some (.ref 62), some (.int 1), none], [.int f], (am_sh, v, w), 0, 0) := by
    intro f hf
    ((repeat' first | refine hP _ ?_ | fail); try dsimp only)
    refine ⟨am_vin rfl, ?_⟩
    ((repeat' first | refine hP _ ?_ | fail); try dsimp only)
    refine m_X12_max ?_
    rw [f_mx2]
    ((repeat' first | refine hP _ ?_ | fail); try dsimp only)
    refine ⟨am_vin rfl, ?_⟩
    dsimp only
    rw [show f_mx 0 (v 63 (Int32.toNatClampNeg (0 + 1)) - f) = bk_st (v 63 1) (v 81 1) (v 63 (8 + 1)) by rw [hf]; rfl, show Int32.toNatClampNeg (0 + 1) = 1 from rfl]
    generalize hv1 : am_up v 63 1 (bk_st (v 63 1) (v 81 1) (v 63 (8 + 1))) = v1
    have f1 : ∀ j, j ≠ 63 → v1 j = v j := fun j hj => by rw [← hv1, am_up_ne _ _ _ hj]
    ((repeat' first | refine hP _ ?_ | fail); try dsimp only)
    refine ⟨am_vin rfl, ?_⟩
    ((repeat' first | refine hP _ ?_ | fail); try dsimp only)
    refine ⟨am_vin rfl, ?_⟩
    ((repeat' first | refine hP _ ?_ | fail); try dsimp only)
    refine ⟨am_vin rfl, ?_⟩
    ((repeat' first | refine hP _ ?_ | fail); try dsimp only)
    refine m_X12_min ?_
    rw [f_mn2]
    ((repeat' first | refine hP _ ?_ | fail); try dsimp only)
    refine m_X12_max ?_
    rw [f_mx2]
    ((repeat' first | refine hP _ ?_ | fail); try dsimp only)
    refine ⟨am_vin rfl, ?_⟩
    dsimp only
    rw [show Int32.toNatClampNeg (2 + 1) = 2 + 1 from rfl, show Int32.toNatClampNeg 1 = 1 from rfl, f1 82 (by decide), f1 83 (by decide), show v1 63 (2 + 1) = v 63 (2 + 1) by rw [← hv1, am_up_eq, if_neg (by decide)]]
    generalize hv2 : am_up v1 63 (2 + 1) _ = v2
    have f2 : ∀ j, j ≠ 63 → v2 j = v j := fun j hj => by rw [← hv2, am_up_ne _ _ _ hj, f1 j hj]
    have l2 : lw_is v2 us z := lw_is_of hl (fun k hk => f2 k (by revert k; decide)) (by rw [f2 62 (by decide)])
    have e0 : v2 63 1 = bk_st (v 63 1) (v 81 1) (v 63 (8 + 1)) := by rw [← hv2, am_up_eq, if_neg (by decide), ← hv1, am_up_eq, if_pos ⟨rfl, rfl⟩]
    have e2 : v2 63 (2 + 1) = bk_bw (v 63 (2 + 1)) (v 82 1) (v 83 1) := by
      rw [← hv2, am_up_eq, if_pos ⟨rfl, rfl⟩]
      rfl
    have eo : ∀ j, j ≠ 1 → j ≠ 2 + 1 → v2 63 j = v 63 j := fun j h1 h2 => by rw [← hv2, am_up_eq, if_neg (fun q => h2 q.2), ← hv1, am_up_eq, if_neg (fun q => h1 q.2)]
    ((repeat' first | refine hP _ ?_ | fail); try dsimp only)
    refine m_hasRule (l := 104) l2 (by decide) ?_
    ((repeat' first | refine hP _ ?_ | fail); try dsimp only)
    cases hS : lwS 104 us with
    | false =>
      rw [hS] at h
      refine ⟨fun _ => ?_, fun c => absurd rfl c⟩
      ((repeat' first | refine hP _ ?_ | fail); try dsimp only)
      exact h v2 f2 e0 e2 (by rw [eo _ (by decide) (by decide)]; rfl) (fun j h1 h2 _ => eo j h1 h2)
    | true =>
      rw [hS] at h
      refine ⟨fun c => absurd c (by decide), fun _ => ?_⟩
      ((repeat' first | refine hP _ ?_ | fail); try dsimp only)
      refine ⟨am_vin rfl, ?_⟩
      ((repeat' first | refine hP _ ?_ | fail); try dsimp only)
      rw [show Int32.toNatClampNeg 1 = 1 from rfl, f2 86 (by decide), hH]
      have fin : ∀ y : Int32, y = (if H = true then 0 else 1) → Q none (am_sh, am_up v2 63 (6 + 1) y, w) := by
        intro y hy
        refine h _ (fun j hj => by rw [am_up_ne _ _ _ hj, f2 j hj]) ?_ ?_ ?_ (fun j h1 h2 h3 => ?_)
        · rw [am_up_eq, if_neg (by decide), e0]
        · rw [am_up_eq, if_neg (by decide), e2]
        · rw [am_up_eq, if_pos ⟨rfl, rfl⟩, hy]
          rfl
        · rw [am_up_eq, if_neg (fun q => h3 q.2), eo j h1 h2]
      cases H with
      | true =>
        refine ⟨fun c => absurd c (by decide), fun _ => ?_⟩
        ((repeat' first | refine hP _ ?_ | fail); try dsimp only)
        refine ⟨am_vin rfl, ?_⟩
        ((repeat' first | refine hP _ ?_ | fail); try dsimp only)
        exact fin 0 rfl
      | false =>
        refine ⟨fun _ => ?_, fun c => absurd rfl c⟩
        ((repeat' first | refine hP _ ?_ | fail); try dsimp only)
        refine ⟨am_vin rfl, ?_⟩
        ((repeat' first | refine hP _ ?_ | fail); try dsimp only)
        exact fin 1 rfl
  ((repeat' first | refine hP _ ?_ | fail); try dsimp only)
  refine ⟨am_vin rfl, ?_⟩
  ((repeat' first | refine hP _ ?_ | fail); try dsimp only)
  rw [show Int32.toNatClampNeg (8 + 1) = 8 + 1 from rfl]
  refine ⟨fun c => ?_, fun c => ?_⟩
  · have c0 : v 63 (8 + 1) = 0 := hb.elim id (fun q => absurd q c)
    ((repeat' first | refine hP _ ?_ | fail); try dsimp only)
    refine ⟨am_vin rfl, ?_⟩
    dsimp only
    exact go _ (by rw [if_pos c0]; rfl)
  · ((repeat' first | refine hP _ ?_ | fail); try dsimp only)
    refine ⟨am_vin rfl, ?_⟩
    ((repeat' first | refine hP _ ?_ | fail); try dsimp only)
    refine ⟨by decide, ?_⟩
    ((iterate 1 refine hP _ ?_); try dsimp only)
    exact go _ (by rw [if_neg (fun q => absurd (q.symm.trans c) (by decide))]; rfl)
set_option maxRecDepth 100000 in
set_option maxHeartbeats 4000000 in
theorem m_offTo_1 (h : Q (some (.int (bk_mo (v 63 1) (v 63 (1 - 1)) (v 63 (2 + 1)) (v 63 (3 - 1)) (v 63 (6 + 1)) (v 63 (7 - 1)) (v 62 3) (v 62 4)))) (am_sh, v, w)) : am_run K I am_m (d + 1) 186 [.ref 62, .int 1] (am_sh, v, w) 0 0 Q := by
  unfold bk_mo at h
  refine en_X12_offenceTo rfl ?_
  intro P hP
  have last : ∀ s : Int32, Q (some (.int (s + (if v 63 (6 + 1) = 0 ∧ v 63 (7 - 1) = 1 then 1 else 0)))) (am_sh, v, w) → P (cd_X12_offenceTo.drop 70, [some (.ref 62), some (.int 1), some (.int (1 - 1)), some (.int s)], [], (am_sh, v, w), 0, 0) := by
    intro s h
    ((repeat' first | refine hP _ ?_ | fail); try dsimp only)
    refine ⟨am_vin rfl, ?_⟩
    ((repeat' first | refine hP _ ?_ | fail); try dsimp only)
    rw [show Int32.toNatClampNeg (6 + 1) = 6 + 1 from rfl]
    refine ⟨fun c => ?_, fun c => ?_⟩
    · rw [if_neg (fun q => c q.1), Int32.add_zero] at h
      ((repeat' first | refine hP _ ?_ | fail); try dsimp only)
      exact h
    · ((repeat' first | refine hP _ ?_ | fail); try dsimp only)
      refine ⟨am_vin rfl, ?_⟩
      ((repeat' first | refine hP _ ?_ | fail); try dsimp only)
      rw [show Int32.toNatClampNeg (6 + (1 - 1)) = 7 - 1 from rfl]
      refine ⟨fun c2 => ?_, fun c2 => ?_⟩
      · rw [if_neg (fun q => c2 q.2), Int32.add_zero] at h
        ((repeat' first | refine hP _ ?_ | fail); try dsimp only)
        exact h
      · rw [if_pos ⟨c, c2⟩] at h
        ((repeat' first | refine hP _ ?_ | fail); try dsimp only)
        exact h
  have mid : ∀ s : Int32, s = (if v 62 3 < v 63 1 - v 63 (1 - 1) then v 63 1 - v 63 (1 - 1) else 0) → P (cd_X12_offenceTo.drop 38, [some (.ref 62), some (.int 1), some (.int (1 - 1)), some (.int s)], [], (am_sh, v, w), 0, 0) := by
    intro s hs
    rw [← hs] at h
    ((repeat' first | refine hP _ ?_ | fail); try dsimp only)
    refine ⟨am_vin rfl, ?_⟩
    ((repeat' first | refine hP _ ?_ | fail); try dsimp only)
    refine ⟨am_vin rfl, ?_⟩
    ((repeat' first | refine hP _ ?_ | fail); try dsimp only)
    rw [show Int32.toNatClampNeg (2 + 1) = 2 + 1 from rfl, show Int32.toNatClampNeg (2 + (1 - 1)) = 3 - 1 from rfl]
    refine ⟨fun c => ?_, fun c => ?_⟩
    · rw [if_neg (Int32.not_lt.mpr c), Int32.add_zero] at h
      exact last s h
    · rw [if_pos (Int32.not_le.mp c)] at h
      ((repeat' first | refine hP _ ?_ | fail); try dsimp only)
      refine ⟨am_vin rfl, ?_⟩
      ((repeat' first | refine hP _ ?_ | fail); try dsimp only)
      refine ⟨am_vin rfl, ?_⟩
      dsimp only
      ((iterate 2 refine hP _ ?_); try dsimp only)
      rw [show Int32.toNatClampNeg (2 + 1) = 2 + 1 from rfl, show Int32.toNatClampNeg (2 + (1 - 1)) = 3 - 1 from rfl]
      refine last _ ?_
      rw [show s + v 63 (2 + 1) - v 63 (3 - 1) = s + (v 63 (2 + 1) - v 63 (3 - 1)) by rw [Int32.sub_eq_add_neg, Int32.sub_eq_add_neg, Int32.add_assoc]]
      exact h
  ((repeat' first | refine hP _ ?_ | fail); try dsimp only)
  refine ⟨am_vin rfl, ?_⟩
  ((repeat' first | refine hP _ ?_ | fail); try dsimp only)
  refine ⟨am_vin rfl, ?_⟩
  ((repeat' first | refine hP _ ?_ | fail); try dsimp only)
  rw [show Int32.toNatClampNeg (0 + 1) = 1 from rfl, show Int32.toNatClampNeg (0 + (1 - 1)) = 1 - 1 from rfl]
  refine ⟨fun c => ?_, fun c => ?_⟩
  · exact mid 0 (by rw [if_neg (Int32.not_lt.mpr c)])
  · ((repeat' first | refine hP _ ?_ | fail); try dsimp only)
    refine ⟨am_vin rfl, ?_⟩
    ((repeat' first | refine hP _ ?_ | fail); try dsimp only)
    refine ⟨am_vin rfl, ?_⟩
    dsimp only
    ((iterate 2 refine hP _ ?_); try dsimp only)
    rw [show Int32.toNatClampNeg (0 + 1) = 1 from rfl, show Int32.toNatClampNeg (0 + (1 - 1)) = 1 - 1 from rfl, Int32.zero_add]
    exact mid _ (by rw [if_pos (Int32.not_le.mp c)])
set_option maxRecDepth 100000 in
set_option maxHeartbeats 4000000 in
theorem m_metR (h1 : (v 63 0 = 0 ∧ v 63 1 = 0) → Q (some (.int 1)) (am_sh, v, w)) (h0 : ¬ (v 63 0 = 0 ∧ v 63 1 = 0) → Q (some (.int 0)) (am_sh, v, w)) : am_run K I am_m (d + 1) 145 [.ref 62] (am_sh, v, w) 0 0 Q := by
  refine en_X12_haveMet rfl ?_
  intro P hP
  ((repeat' first | refine hP _ ?_ | fail); try dsimp only)
  refine ⟨am_vin rfl, ?_⟩
  ((repeat' first | refine hP _ ?_ | fail); try dsimp only)
  rw [tn_0]
  refine ⟨fun c => ?_, fun c => ?_⟩
  · ((repeat' first | refine hP _ ?_ | fail); try dsimp only)
    exact ⟨Or.inl rfl, h0 (fun q => c q.1)⟩
  · ((repeat' first | refine hP _ ?_ | fail); try dsimp only)
    refine ⟨am_vin rfl, ?_⟩
    ((repeat' first | refine hP _ ?_ | fail); try dsimp only)
    rw [tn_1]
    refine ⟨fun c2 => ?_, fun c2 => ?_⟩
    · ((repeat' first | refine hP _ ?_ | fail); try dsimp only)
      exact ⟨Or.inl rfl, h0 (fun q => c2 q.2)⟩
    · ((repeat' first | refine hP _ ?_ | fail); try dsimp only)
      exact ⟨Or.inr rfl, h1 ⟨c, c2⟩⟩
set_option maxRecDepth 100000 in
set_option maxHeartbeats 4000000 in
theorem m_goneR (h1 : iv_bit (v 63 10)) (h2 : iv_bit (v 63 11)) (h : Q (some (.int (lefB (v 63)))) (am_sh, v, w)) : am_run K I am_m (d + 1) 146 [.ref 62] (am_sh, v, w) 0 0 Q := by
  refine en_X12_goneSet rfl ?_
  intro P hP
  ((repeat' first | refine hP _ ?_ | fail); try dsimp only)
  refine ⟨am_vin rfl, ?_⟩
  ((repeat' first | refine hP _ ?_ | fail); try dsimp only)
  refine ⟨am_vin rfl, ?_⟩
  ((repeat' first | refine hP _ ?_ | fail); try dsimp only)
  rw [tn_10, tn_11]
  refine am_qr ?_ rfl h
  unfold lefB
  rcases h1 with e | e <;> rcases h2 with e2 | e2 <;> rw [e, e2] <;> decide
set_option maxRecDepth 100000 in
set_option maxHeartbeats 4000000 in
theorem m_apart (h : Q (some (.int (bt_ap (v 63)))) (am_sh, v, w)) : am_run K I am_m (d + 2) 187 [.ref 62] (am_sh, v, w) 0 0 Q := by
  refine en_X12_apartNow rfl ?_
  intro P hP
  ((repeat' first | refine hP _ ?_ | fail); try dsimp only)
  refine ⟨am_vin rfl, ?_⟩
  ((repeat' first | refine hP _ ?_ | fail); try dsimp only)
  refine ⟨am_vin rfl, ?_⟩
  ((repeat' first | refine hP _ ?_ | fail); try dsimp only)
  refine m_X12_size ?_
  ((repeat' first | refine hP _ ?_ | fail); try dsimp only)
  exact h
set_option maxRecDepth 100000 in
set_option maxHeartbeats 4000000 in
theorem m_there (h : Q (some (.int (bt_th (v 63)))) (am_sh, v, w)) : am_run K I am_m (d + 2) 189 [.ref 62] (am_sh, v, w) 0 0 Q := by
  unfold bt_th at h
  refine en_X12_thereNow rfl ?_
  intro P hP
  ((repeat' first | refine hP _ ?_ | fail); try dsimp only)
  refine m_metR (fun q => ?_) (fun q => ?_)
  · rw [if_pos q] at h
    ((repeat' first | refine hP _ ?_ | fail); try dsimp only)
    refine ⟨fun c => absurd c (by decide), fun _ => ?_⟩
    ((repeat' first | refine hP _ ?_ | fail); try dsimp only)
    exact h
  · rw [if_neg q] at h
    ((repeat' first | refine hP _ ?_ | fail); try dsimp only)
    refine ⟨fun _ => ?_, fun c => absurd rfl c⟩
    ((repeat' first | refine hP _ ?_ | fail); try dsimp only)
    refine ⟨am_vin rfl, ?_⟩
    ((repeat' first | refine hP _ ?_ | fail); try dsimp only)
    rw [tn_0]
    refine ⟨fun c => ?_, fun c => ?_⟩
    · rw [if_neg c] at h
      ((repeat' first | refine hP _ ?_ | fail); try dsimp only)
      refine ⟨am_vin rfl, ?_⟩
      ((repeat' first | refine hP _ ?_ | fail); try dsimp only)
      rw [tn_1]
      refine ⟨fun c2 => ?_, fun c2 => ?_⟩
      · rw [if_neg c2] at h
        ((repeat' first | refine hP _ ?_ | fail); try dsimp only)
        exact h
      · rw [if_pos c2] at h
        ((repeat' first | refine hP _ ?_ | fail); try dsimp only)
        exact h
    · rw [if_pos c] at h
      ((repeat' first | refine hP _ ?_ | fail); try dsimp only)
      exact h
set_option maxRecDepth 100000 in
set_option maxHeartbeats 4000000 in
theorem m_goesOn (h1 : iv_bit (v 63 10)) (h2 : iv_bit (v 63 11)) (g1 : goB (v 63) → Q (some (.int 1)) (am_sh, v, w)) (g0 : ¬ goB (v 63) → Q (some (.int 0)) (am_sh, v, w)) : am_run K I am_m (d + 2) 188 [.ref 62] (am_sh, v, w) 0 0 Q := by
  refine en_X12_goesOn rfl ?_
  intro P hP
  have no : ¬ goB (v 63) → P (cd_X12_goesOn.drop 14, [some (.ref 62)], [], (am_sh, v, w), 0, 0) := by
    intro g
    ((repeat' first | refine hP _ ?_ | fail); try dsimp only)
    exact ⟨Or.inl rfl, g0 g⟩
  ((repeat' first | refine hP _ ?_ | fail); try dsimp only)
  refine m_metR (fun q => ?_) (fun q => ?_)
  · ((repeat' first | refine hP _ ?_ | fail); try dsimp only)
    exact ⟨fun _ => no (fun g => g.1 q), fun c => absurd c (by decide)⟩
  · ((repeat' first | refine hP _ ?_ | fail); try dsimp only)
    refine ⟨fun c => absurd rfl c, fun _ => ?_⟩
    ((repeat' first | refine hP _ ?_ | fail); try dsimp only)
    refine m_goneR h1 h2 ?_
    ((repeat' first | refine hP _ ?_ | fail); try dsimp only)
    refine ⟨fun c => no (fun g => c (lefB_0.mpr g.2.1)), fun c => ?_⟩
    ((repeat' first | refine hP _ ?_ | fail); try dsimp only)
    refine ⟨am_vin rfl, ?_⟩
    ((repeat' first | refine hP _ ?_ | fail); try dsimp only)
    rw [tn_12]
    refine ⟨fun c2 => no (fun g => absurd g.2.2 (Int32.not_lt.mpr c2)), fun c2 => ?_⟩
    ((repeat' first | refine hP _ ?_ | fail); try dsimp only)
    exact ⟨Or.inr rfl, g1 ⟨q, lefB_0.mp c, Int32.not_le.mp c2⟩⟩
end M66
