/-! ===== a breath: the reference, whole ===== -/
theorem bt_congr {us : List lc_U} {mS mD : Int32} {r r' : Nat → Int32} (h : ∀ j, j < 14 → r j = r' j) : bt us mS mD r = bt us mS mD r' := by
  unfold bt bt_s0 bt_s1 bt_b0 bt_b1 bt_h0 bt_h1 bt_F0 bt_F1
  rw [h 0 (by decide), h 1 (by decide), h 2 (by decide), h 3 (by decide), h 4 (by decide), h 5 (by decide), h 6 (by decide), h 7 (by decide), h 8 (by decide), h 9 (by decide), h 12 (by decide), h 13 (by decide)]
section M67
variable {K : am_K} {I : am_I} {d : Nat} {v : am_V} {w : am_X} {Q : Option Value → am_H → Prop} {P : am_C → Prop} {us : List lc_U} {z : Nat} {F : Nat → Int32}
set_option maxRecDepth 100000 in
set_option maxHeartbeats 4000000 in
theorem lp_brD_0 {l2 l3 : Option Value} {G : Bool} (hP : ∀ c, am_step K I (am_run K I am_m (d + 4)) cd_X12_breathGoes 0 0 Q P c → P c) (hG : v 87 0 = b2i G) (h : ∀ (v' : am_V) (l2 l3 : Option Value), (∀ j, j ≠ 63 → j ≠ 84 → v' j = v j) → (∀ j, j ≠ 4 + 0 → j ≠ 10 + 0 → v' 63 j = v 63 j) → (∀ j, j ≠ 0 → v' 84 j = v 84 j) → v' 63 (4 + 0) = bk_of (v 63 0) (v 63 (1 - 0)) (v 63 (2 + 0)) (v 63 (3 - 0)) (v 63 (6 + 0)) (v 63 (7 - 0)) (v 62 3) (v 62 4) (v 63 (4 + 0)) → v' 63 (10 + 0) = (if G = true then 1 else v 63 (10 + 0)) → v' 84 0 = v 84 0 + (if v 63 (4 + 0) < v' 63 (4 + 0) then 1 else 0) → P (cd_X12_breathGoes.drop 53, [some (.ref 62), some (.int (0 + 1)), l2, l3], [], (am_sh, v', w), 0, 0)) : P (cd_X12_breathGoes.drop 56, [some (.ref 62), some (.int 0), l2, l3], [], (am_sh, v, w), 0, 0) := by
  ((repeat' first | refine hP _ ?_ | fail); try dsimp only)
  refine m_offTo_0 ?_
  ((repeat' first | refine hP _ ?_ | fail); try dsimp only)
  refine ⟨am_vin rfl, ?_⟩
  ((repeat' first | refine hP _ ?_ | fail); try dsimp only)
  refine m_X12_min ?_
  rw [f_mn2, show Int32.toNatClampNeg (4 + 0) = 4 + 0 from rfl]
  have h := fun v' => h v' (some (.int (bk_mo (v 63 0) (v 63 (1 - 0)) (v 63 (2 + 0)) (v 63 (3 - 0)) (v 63 (6 + 0)) (v 63 (7 - 0)) (v 62 3) (v 62 4)))) (some (.int (bk_of (v 63 0) (v 63 (1 - 0)) (v 63 (2 + 0)) (v 63 (3 - 0)) (v 63 (6 + 0)) (v 63 (7 - 0)) (v 62 3) (v 62 4) (v 63 (4 + 0)))))
  rw [show f_mn 9999 (v 63 (4 + 0) + bk_mo (v 63 0) (v 63 (1 - 0)) (v 63 (2 + 0)) (v 63 (3 - 0)) (v 63 (6 + 0)) (v 63 (7 - 0)) (v 62 3) (v 62 4)) = bk_of (v 63 0) (v 63 (1 - 0)) (v 63 (2 + 0)) (v 63 (3 - 0)) (v 63 (6 + 0)) (v 63 (7 - 0)) (v 62 3) (v 62 4) (v 63 (4 + 0)) from rfl]
  generalize bk_of (v 63 0) (v 63 (1 - 0)) (v 63 (2 + 0)) (v 63 (3 - 0)) (v 63 (6 + 0)) (v 63 (7 - 0)) (v 62 3) (v 62 4) (v 63 (4 + 0)) = T at h ⊢
  generalize bk_mo (v 63 0) (v 63 (1 - 0)) (v 63 (2 + 0)) (v 63 (3 - 0)) (v 63 (6 + 0)) (v 63 (7 - 0)) (v 62 3) (v 62 4) = M at h ⊢
  -- behind the count
  have fin : ∀ u : am_V, (∀ j, j ≠ 84 → u j = v j) → (∀ j, j ≠ 0 → u 84 j = v 84 j) → u 84 0 = v 84 0 + (if v 63 (4 + 0) < T then 1 else 0) → P (cd_X12_breathGoes.drop 89, [some (.ref 62), some (.int 0), some (.int M), some (.int T)], [], (am_sh, u, w), 0, 0) := by
    intro u hu hu2 hu3
    ((repeat' first | refine hP _ ?_ | fail); try dsimp only)
    refine ⟨am_vin rfl, ?_⟩
    ((repeat' first | refine hP _ ?_ | fail); try dsimp only)
    refine ⟨am_vin rfl, ?_⟩
    ((repeat' first | refine hP _ ?_ | fail); try dsimp only)
    rw [show Int32.toNatClampNeg (4 + 0) = 4 + 0 from rfl, show Int32.toNatClampNeg 0 = 0 from rfl, am_up_ne _ _ _ (show (87 : Nat) ≠ 63 by decide), hu 87 (by decide), hG]
    cases G with
    | true =>
      refine ⟨fun c => absurd c (by decide), fun _ => ?_⟩
      ((repeat' first | refine hP _ ?_ | fail); try dsimp only)
      refine ⟨am_vin rfl, ?_⟩
      dsimp only
      ((iterate 2 refine hP _ ?_); try dsimp only)
      rw [show Int32.toNatClampNeg (10 + 0) = 10 + 0 from rfl]
      refine h _ (fun j h1 h2 => ?_) (fun j h1 h2 => ?_) (fun j h1 => ?_) ?_ ?_ ?_
      · rw [am_up_ne _ _ _ h1, am_up_ne _ _ _ h1, hu j h2]
      · rw [am_up_eq, if_neg (fun q => h2 q.2), am_up_eq, if_neg (fun q => h1 q.2), hu 63 (by decide)]
      · rw [am_up_ne _ _ _ (by decide), am_up_ne _ _ _ (by decide), hu2 j h1]
      · rw [am_up_eq, if_neg (by decide), am_up_eq, if_pos ⟨rfl, rfl⟩]
      · rw [am_up_eq, if_pos ⟨rfl, rfl⟩]
        rfl
      · rw [am_up_ne _ _ _ (by decide), am_up_ne _ _ _ (by decide), hu3, show am_up (am_up u 63 (4 + 0) T) 63 (10 + 0) 1 63 (4 + 0) = T by rw [am_up_eq, if_neg (by decide), am_up_eq, if_pos ⟨rfl, rfl⟩]]
    | false =>
      refine ⟨fun _ => ?_, fun c => absurd rfl c⟩
      ((iterate 2 refine hP _ ?_); try dsimp only)
      refine h _ (fun j h1 h2 => ?_) (fun j h1 h2 => ?_) (fun j h1 => ?_) ?_ ?_ ?_
      · rw [am_up_ne _ _ _ h1, hu j h2]
      · rw [am_up_eq, if_neg (fun q => h1 q.2), hu 63 (by decide)]
      · rw [am_up_ne _ _ _ (by decide), hu2 j h1]
      · rw [am_up_eq, if_pos ⟨rfl, rfl⟩]
      · rw [am_up_eq, if_neg (by decide), hu 63 (by decide)]
        rfl
      · rw [am_up_ne _ _ _ (by decide), hu3, show am_up u 63 (4 + 0) T 63 (4 + 0) = T by rw [am_up_eq, if_pos ⟨rfl, rfl⟩]]
  ((repeat' first | refine hP _ ?_ | fail); try dsimp only)
  refine ⟨am_vin rfl, ?_⟩
  ((repeat' first | refine hP _ ?_ | fail); try dsimp only)
  rw [show Int32.toNatClampNeg (4 + 0) = 4 + 0 from rfl]
  refine ⟨fun c => ?_, fun c => ?_⟩
  · exact fin v (fun _ _ => rfl) (fun _ _ => rfl) (by rw [if_neg (Int32.not_lt.mpr c), Int32.add_zero])
  · ((repeat' first | refine hP _ ?_ | fail); try dsimp only)
    refine ⟨am_vin rfl, ?_⟩
    ((repeat' first | refine hP _ ?_ | fail); try dsimp only)
    refine ⟨am_vin rfl, ?_⟩
    dsimp only
    rw [show Int32.toNatClampNeg 0 = 0 from rfl]
    refine fin _ (fun j h1 => by rw [am_up_ne _ _ _ h1]) (fun j h1 => by rw [am_up_eq, if_neg (fun q => h1 q.2)]) ?_
    rw [am_up_eq, if_pos ⟨rfl, rfl⟩, if_pos (Int32.not_le.mp c)]
set_option maxRecDepth 100000 in
set_option maxHeartbeats 4000000 in
theorem lp_brD_1 {l2 l3 : Option Value} {G : Bool} (hP : ∀ c, am_step K I (am_run K I am_m (d + 4)) cd_X12_breathGoes 0 0 Q P c → P c) (hG : v 87 1 = b2i G) (h : ∀ (v' : am_V) (l2 l3 : Option Value), (∀ j, j ≠ 63 → j ≠ 84 → v' j = v j) → (∀ j, j ≠ 4 + 1 → j ≠ 10 + 1 → v' 63 j = v 63 j) → (∀ j, j ≠ 1 → v' 84 j = v 84 j) → v' 63 (4 + 1) = bk_of (v 63 1) (v 63 (1 - 1)) (v 63 (2 + 1)) (v 63 (3 - 1)) (v 63 (6 + 1)) (v 63 (7 - 1)) (v 62 3) (v 62 4) (v 63 (4 + 1)) → v' 63 (10 + 1) = (if G = true then 1 else v 63 (10 + 1)) → v' 84 1 = v 84 1 + (if v 63 (4 + 1) < v' 63 (4 + 1) then 1 else 0) → P (cd_X12_breathGoes.drop 53, [some (.ref 62), some (.int (1 + 1)), l2, l3], [], (am_sh, v', w), 0, 0)) : P (cd_X12_breathGoes.drop 56, [some (.ref 62), some (.int 1), l2, l3], [], (am_sh, v, w), 0, 0) := by
  ((repeat' first | refine hP _ ?_ | fail); try dsimp only)
  refine m_offTo_1 ?_
  ((repeat' first | refine hP _ ?_ | fail); try dsimp only)
  refine ⟨am_vin rfl, ?_⟩
  ((repeat' first | refine hP _ ?_ | fail); try dsimp only)
  refine m_X12_min ?_
  rw [f_mn2, show Int32.toNatClampNeg (4 + 1) = 4 + 1 from rfl]
  have h := fun v' => h v' (some (.int (bk_mo (v 63 1) (v 63 (1 - 1)) (v 63 (2 + 1)) (v 63 (3 - 1)) (v 63 (6 + 1)) (v 63 (7 - 1)) (v 62 3) (v 62 4)))) (some (.int (bk_of (v 63 1) (v 63 (1 - 1)) (v 63 (2 + 1)) (v 63 (3 - 1)) (v 63 (6 + 1)) (v 63 (7 - 1)) (v 62 3) (v 62 4) (v 63 (4 + 1)))))
  rw [show f_mn 9999 (v 63 (4 + 1) + bk_mo (v 63 1) (v 63 (1 - 1)) (v 63 (2 + 1)) (v 63 (3 - 1)) (v 63 (6 + 1)) (v 63 (7 - 1)) (v 62 3) (v 62 4)) = bk_of (v 63 1) (v 63 (1 - 1)) (v 63 (2 + 1)) (v 63 (3 - 1)) (v 63 (6 + 1)) (v 63 (7 - 1)) (v 62 3) (v 62 4) (v 63 (4 + 1)) from rfl]
  generalize bk_of (v 63 1) (v 63 (1 - 1)) (v 63 (2 + 1)) (v 63 (3 - 1)) (v 63 (6 + 1)) (v 63 (7 - 1)) (v 62 3) (v 62 4) (v 63 (4 + 1)) = T at h ⊢
  generalize bk_mo (v 63 1) (v 63 (1 - 1)) (v 63 (2 + 1)) (v 63 (3 - 1)) (v 63 (6 + 1)) (v 63 (7 - 1)) (v 62 3) (v 62 4) = M at h ⊢
  -- behind the count
  have fin : ∀ u : am_V, (∀ j, j ≠ 84 → u j = v j) → (∀ j, j ≠ 1 → u 84 j = v 84 j) → u 84 1 = v 84 1 + (if v 63 (4 + 1) < T then 1 else 0) → P (cd_X12_breathGoes.drop 89, [some (.ref 62), some (.int 1), some (.int M), some (.int T)], [], (am_sh, u, w), 0, 0) := by
    intro u hu hu2 hu3
    ((repeat' first | refine hP _ ?_ | fail); try dsimp only)
    refine ⟨am_vin rfl, ?_⟩
    ((repeat' first | refine hP _ ?_ | fail); try dsimp only)
    refine ⟨am_vin rfl, ?_⟩
    ((repeat' first | refine hP _ ?_ | fail); try dsimp only)
    rw [show Int32.toNatClampNeg (4 + 1) = 4 + 1 from rfl, show Int32.toNatClampNeg 1 = 1 from rfl, am_up_ne _ _ _ (show (87 : Nat) ≠ 63 by decide), hu 87 (by decide), hG]
    cases G with
    | true =>
      refine ⟨fun c => absurd c (by decide), fun _ => ?_⟩
      ((repeat' first | refine hP _ ?_ | fail); try dsimp only)
      refine ⟨am_vin rfl, ?_⟩
      dsimp only
      ((iterate 2 refine hP _ ?_); try dsimp only)
      rw [show Int32.toNatClampNeg (10 + 1) = 10 + 1 from rfl]
      refine h _ (fun j h1 h2 => ?_) (fun j h1 h2 => ?_) (fun j h1 => ?_) ?_ ?_ ?_
      · rw [am_up_ne _ _ _ h1, am_up_ne _ _ _ h1, hu j h2]
      · rw [am_up_eq, if_neg (fun q => h2 q.2), am_up_eq, if_neg (fun q => h1 q.2), hu 63 (by decide)]
      · rw [am_up_ne _ _ _ (by decide), am_up_ne _ _ _ (by decide), hu2 j h1]
      · rw [am_up_eq, if_neg (by decide), am_up_eq, if_pos ⟨rfl, rfl⟩]
      · rw [am_up_eq, if_pos ⟨rfl, rfl⟩]
        rfl
      · rw [am_up_ne _ _ _ (by decide), am_up_ne _ _ _ (by decide), hu3, show am_up (am_up u 63 (4 + 1) T) 63 (10 + 1) 1 63 (4 + 1) = T by rw [am_up_eq, if_neg (by decide), am_up_eq, if_pos ⟨rfl, rfl⟩]]
    | false =>
      refine ⟨fun _ => ?_, fun c => absurd rfl c⟩
      ((iterate 2 refine hP _ ?_); try dsimp only)
      refine h _ (fun j h1 h2 => ?_) (fun j h1 h2 => ?_) (fun j h1 => ?_) ?_ ?_ ?_
      · rw [am_up_ne _ _ _ h1, hu j h2]
      · rw [am_up_eq, if_neg (fun q => h1 q.2), hu 63 (by decide)]
      · rw [am_up_ne _ _ _ (by decide), hu2 j h1]
      · rw [am_up_eq, if_pos ⟨rfl, rfl⟩]
      · rw [am_up_eq, if_neg (by decide), hu 63 (by decide)]
        rfl
      · rw [am_up_ne _ _ _ (by decide), hu3, show am_up u 63 (4 + 1) T 63 (4 + 1) = T by rw [am_up_eq, if_pos ⟨rfl, rfl⟩]]
  ((repeat' first | refine hP _ ?_ | fail); try dsimp only)
  refine ⟨am_vin rfl, ?_⟩
  ((repeat' first | refine hP _ ?_ | fail); try dsimp only)
  rw [show Int32.toNatClampNeg (4 + 1) = 4 + 1 from rfl]
  refine ⟨fun c => ?_, fun c => ?_⟩
  · exact fin v (fun _ _ => rfl) (fun _ _ => rfl) (by rw [if_neg (Int32.not_lt.mpr c), Int32.add_zero])
  · ((repeat' first | refine hP _ ?_ | fail); try dsimp only)
    refine ⟨am_vin rfl, ?_⟩
    ((repeat' first | refine hP _ ?_ | fail); try dsimp only)
    refine ⟨am_vin rfl, ?_⟩
    dsimp only
    rw [show Int32.toNatClampNeg 1 = 1 from rfl]
    refine fin _ (fun j h1 => by rw [am_up_ne _ _ _ h1]) (fun j h1 => by rw [am_up_eq, if_neg (fun q => h1 q.2)]) ?_
    rw [am_up_eq, if_pos ⟨rfl, rfl⟩, if_pos (Int32.not_le.mp c)]
set_option maxRecDepth 100000 in
set_option maxHeartbeats 4000000 in
theorem lp_brE {l1 l2 l3 : Option Value} (hP : ∀ c, am_step K I (am_run K I am_m (d + 4)) cd_X12_breathGoes 0 0 Q P c → P c) (h : ∀ v' : am_V, (∀ j, j ≠ 62 → j ≠ 63 → j ≠ 85 → v' j = v j) → (∀ j, j ≠ 38 → j ≠ 39 → j ≠ 40 → v' 62 j = v 62 j) → (∀ j, j ≠ 12 → v' 63 j = v 63 j) → v' 63 12 = v 63 12 + 1 → v' 62 38 = v 62 38 + 1 → v' 62 39 = (if v 62 39 = -1 then bt_th (v 63) else v 62 39) → v' 62 40 = f_mx (v 62 40) (bt_ap (v 63)) → (∀ i, i < 3 → v' 85 i = v 85 i + (if bt_nr (v 63) = i then 1 else 0)) → Q none (am_sh, v', w)) : P (cd_X12_breathGoes.drop 110, [some (.ref 62), l1, l2, l3], [], (am_sh, v, w), 0, 0) := by
  ((repeat' first | refine hP _ ?_ | fail); try dsimp only)
  refine ⟨am_vin rfl, ?_⟩
  ((repeat' first | refine hP _ ?_ | fail); try dsimp only)
  refine ⟨am_vin rfl, ?_⟩
  dsimp only
  rw [tn_12]
  generalize hv1 : am_up v 63 12 (v 63 12 + 1) = v1
  have a1 : ∀ j, j ≠ 63 → v1 j = v j := fun j hj => by rw [← hv1, am_up_ne _ _ _ hj]
  have b1 : ∀ j, j ≠ 12 → v1 63 j = v 63 j := fun j hj => by rw [← hv1, am_up_eq, if_neg (fun q => hj q.2)]
  have c1 : v1 63 12 = v 63 12 + 1 := by rw [← hv1, am_up_eq, if_pos ⟨rfl, rfl⟩]
  have hth : bt_th (v1 63) = bt_th (v 63) := by unfold bt_th; rw [b1 0 (by decide), b1 1 (by decide)]
  have hap : bt_ap (v1 63) = bt_ap (v 63) := by unfold bt_ap; rw [b1 0 (by decide), b1 1 (by decide)]
  ((iterate 7 refine hP _ ?_); try dsimp only)
  rw [a1 62 (by decide)]
  generalize hv2 : am_up v1 62 38 (v 62 38 + 1) = v2
  have a2 : ∀ j, j ≠ 62 → v2 j = v1 j := fun j hj => by rw [← hv2, am_up_ne _ _ _ hj]
  have b2 : ∀ j, j ≠ 38 → v2 62 j = v 62 j := fun j hj => by rw [← hv2, am_up_eq, if_neg (fun q => hj q.2), a1 62 (by decide)]
  have c2 : v2 62 38 = v 62 38 + 1 := by rw [← hv2, am_up_eq, if_pos ⟨rfl, rfl⟩]
  have fin : ∀ (y : Int32) (u : am_V), (∀ j, j ≠ 85 → u j = v2 j) → (∀ i, i < 3 → u 85 i = v 85 i + (if bt_nr (v 63) = i then 1 else 0)) → P (cd_X12_breathGoes.drop 160, [some (.ref 62), some (.int y), l2, l3], [], (am_sh, u, w), 0, 0) := by
    intro y u hu hn
    have hu63 : u 63 = v1 63 := by rw [hu 63 (by decide), a2 63 (by decide)]
    ((repeat' first | refine hP _ ?_ | fail); try dsimp only)
    refine m_apart ?_
    ((repeat' first | refine hP _ ?_ | fail); try dsimp only)
    refine m_X12_max ?_
    rw [f_mx2, hu63, hap]
    ((repeat' first | refine hP _ ?_ | fail); try dsimp only)
    rw [hu 62 (by decide), b2 40 (by decide)]
    generalize hv3 : am_up u 62 40 (f_mx (v 62 40) (bt_ap (v 63))) = v3
    have a3 : ∀ j, j ≠ 62 → v3 j = u j := fun j hj => by rw [← hv3, am_up_ne _ _ _ hj]
    have b3 : ∀ j, j ≠ 40 → v3 62 j = v2 62 j := fun j hj => by rw [← hv3, am_up_eq, if_neg (fun q => hj q.2), hu 62 (by decide)]
    have c3 : v3 62 40 = f_mx (v 62 40) (bt_ap (v 63)) := by rw [← hv3, am_up_eq, if_pos ⟨rfl, rfl⟩]
    have f39 : v3 62 39 = v 62 39 := by rw [b3 39 (by decide), b2 39 (by decide)]
    have last : ∀ u4 : am_V, (∀ j, j ≠ 62 → u4 j = v3 j) → (∀ j, j ≠ 39 → u4 62 j = v3 62 j) → u4 62 39 = (if v 62 39 = -1 then bt_th (v 63) else v 62 39) → Q none (am_sh, u4, w) := by
      intro u4 h1 h2 h3
      refine h u4 (fun j k1 k2 k3 => ?_) (fun j k1 k2 k3 => ?_) (fun j k1 => ?_) ?_ ?_ h3 ?_ (fun i hi => ?_)
      · rw [h1 j k1, a3 j k1, hu j k3, a2 j k1, a1 j k2]
      · rw [h2 j k2, b3 j k3, b2 j k1]
      · rw [h1 63 (by decide), a3 63 (by decide), hu63, b1 j k1]
      · rw [h1 63 (by decide), a3 63 (by decide), hu63, c1]
      · rw [h2 38 (by decide), b3 38 (by decide), c2]
      · rw [h2 40 (by decide), c3]
      · rw [h1 85 (by decide), a3 85 (by decide), hn i hi]
    ((repeat' first | refine hP _ ?_ | fail); try dsimp only)
    rw [f39]
    refine ⟨fun c => ?_, fun c => ?_⟩
    · ((repeat' first | refine hP _ ?_ | fail); try dsimp only)
      exact last v3 (fun _ _ => rfl) (fun _ _ => rfl) (by rw [if_neg c, f39])
    · ((repeat' first | refine hP _ ?_ | fail); try dsimp only)
      refine m_there ?_
      ((repeat' first | refine hP _ ?_ | fail); try dsimp only)
      refine last _ (fun j hj => by rw [am_up_ne _ _ _ hj]) (fun j hj => by rw [am_up_eq, if_neg (fun q => hj q.2)]) ?_
      rw [am_up_eq, if_pos ⟨rfl, rfl⟩, if_pos c, a3 63 (by decide), hu63, hth]
  have nr : ∀ i : Nat, (i = 0 ∨ i = 1 ∨ i = 2) → bt_nr (v 63) = i → P (cd_X12_breathGoes.drop 149, [some (.ref 62), l1, l2, l3], [.int (nI i)], (am_sh, v2, w), 0, 0) := by
    intro i hi hb
    have hi3 : i < 3 := by omega
    ((repeat' first | refine hP _ ?_ | fail); try dsimp only)
    refine ⟨vp_in_nI (by omega) (by omega), ?_⟩
    ((repeat' first | refine hP _ ?_ | fail); try dsimp only)
    refine ⟨vp_in_nI (by omega) (by omega), ?_⟩
    dsimp only
    rw [nI_clamp (by omega), a2 85 (by decide), a1 85 (by decide)]
    refine fin (nI i) _ (fun j hj => by rw [am_up_ne _ _ _ hj]) (fun j hj => ?_)
    rw [hb, am_up_eq]
    by_cases e : j = i
    · subst e
      rw [if_pos ⟨rfl, rfl⟩, if_pos rfl]
    · rw [if_neg (fun q => e q.2), if_neg (fun q => e q.symm), a2 85 (by decide), a1 85 (by decide), Int32.add_zero]
  have e0 : v2 63 0 = v 63 0 := by rw [a2 63 (by decide), b1 0 (by decide)]
  have e1 : v2 63 1 = v 63 1 := by rw [a2 63 (by decide), b1 1 (by decide)]
  ((repeat' first | refine hP _ ?_ | fail); try dsimp only)
  refine ⟨am_vin rfl, ?_⟩
  ((repeat' first | refine hP _ ?_ | fail); try dsimp only)
  refine ⟨am_vin rfl, ?_⟩
  ((repeat' first | refine hP _ ?_ | fail); try dsimp only)
  rw [tn_0, tn_1, e0, e1]
  unfold bt_nr at nr
  refine ⟨fun c => ?_, fun c => ?_⟩
  · rw [if_neg (Int32.not_lt.mpr c)] at nr
    ((repeat' first | refine hP _ ?_ | fail); try dsimp only)
    refine ⟨am_vin rfl, ?_⟩
    ((repeat' first | refine hP _ ?_ | fail); try dsimp only)
    refine ⟨am_vin rfl, ?_⟩
    ((repeat' first | refine hP _ ?_ | fail); try dsimp only)
    rw [tn_0, tn_1, e0, e1]
    refine ⟨fun c2 => ?_, fun c2 => ?_⟩
    · rw [if_neg (Int32.not_lt.mpr c2)] at nr
      ((iterate 1 refine hP _ ?_); try dsimp only)
      exact nr 2 (Or.inr (Or.inr rfl)) rfl
    · rw [if_pos (Int32.not_le.mp c2)] at nr
      ((iterate 2 refine hP _ ?_); try dsimp only)
      exact nr 1 (Or.inr (Or.inl rfl)) rfl
  · rw [if_pos (Int32.not_le.mp c)] at nr
    ((iterate 2 refine hP _ ?_); try dsimp only)
    exact nr 0 (Or.inl rfl) rfl
end M67
