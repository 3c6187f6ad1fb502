/-! ===== pairs on the trial: what is common; tried ===== -/
theorem f_meet_o {v : am_V} {k : Nat} (h1 : k ≠ 33) (h2 : k ≠ 34) (h3 : k ≠ 35) : f_meet v 33 34 35 30 31 32 k = v k := by
  unfold f_meet
  rw [am_up_ne _ _ _ h1, am_up_ne _ _ _ h1]
  funext y
  unfold f_king
  rw [if_neg (fun q => h3 q.1), if_neg (fun q => h2 q.1)]
theorem f_meet_mt {v : am_V} {r : Nat → Int32} (h : mt v 30 31 32 r) : mt (f_meet v 33 34 35 30 31 32) 33 34 35 r := by
  simpa [mt, f_meet, f_king, am_up_eq] using h
def frC (v u : am_V) : Prop := ∀ k, k ≠ 33 → k ≠ 34 → k ≠ 35 → k ≠ 8 → k ≠ 9 → u k = v k
theorem lw_frC {v u : am_V} {us : List lc_U} {z : Nat} (hl : lw_is v us z) (hf : frC v u) : lw_is u us z := lw_is_of hl (fun k hk => hf k (by revert k; decide) (by revert k; decide) (by revert k; decide) (by revert k; decide) (by revert k; decide)) (by rw [hf 62 (by decide) (by decide) (by decide) (by decide) (by decide)])
theorem INV.trial {v u v2 : am_V} (hI : INV v) (hu : frC v u) (h2 : frR (f_row u 63 64 14) v2) : INV (f_row v2 64 63 14) := by
  have a : ∀ k, k ≠ 63 → f_row v2 64 63 14 k = v2 k := fun k hk => by
    funext y
    unfold f_row
    rw [if_neg (fun q => hk q.1)]
  have b : ∀ k, k ≠ 64 → f_row u 63 64 14 k = u k := fun k hk => by
    funext y
    unfold f_row
    rw [if_neg (fun q => hk q.1)]
  have c : ∀ k, (k < 62 ∨ 87 < k ∨ (64 < k ∧ k < 78)) → k ≠ 33 → k ≠ 34 → k ≠ 35 → k ≠ 8 → k ≠ 9 → f_row v2 64 63 14 k = v k := fun k hk h1 h2' h3 h4 h5 => by
    rw [a k (by omega), h2.1 k (by omega), b k (by omega), hu k h1 h2' h3 h4 h5]
  have e : ∀ j, j < 14 → f_row v2 64 63 14 63 j = v 63 j := fun j hj => by
    show (if 63 = 63 ∧ j < 14 then v2 64 j else v2 63 j) = _
    rw [if_pos ⟨rfl, hj⟩, h2.1 64 (by omega)]
    show (if 64 = 64 ∧ j < 14 then u 63 j else u 64 j) = _
    rw [if_pos ⟨rfl, hj⟩, hu 63 (by decide) (by decide) (by decide) (by decide) (by decide)]
  have c30 := c 30 (by omega) (by decide) (by decide) (by decide) (by decide) (by decide)
  have c31 := c 31 (by omega) (by decide) (by decide) (by decide) (by decide) (by decide)
  have c32 := c 32 (by omega) (by decide) (by decide) (by decide) (by decide) (by decide)
  refine hI.mv (fun k hk => ?_) (fun j hj => ?_) ?_ (rg_congr e hI.1.2)
  · have : (k < 62 ∨ 87 < k ∨ (64 < k ∧ k < 78)) ∧ k ≠ 33 ∧ k ≠ 34 ∧ k ≠ 35 ∧ k ≠ 8 ∧ k ≠ 9 := by revert k; decide
    exact c k this.1 this.2.1 this.2.2.1 this.2.2.2.1 this.2.2.2.2.1 this.2.2.2.2.2
  · rw [a 62 (by decide), h2.2 j (by revert j; decide) (by revert j; decide) (by revert j; decide), b 62 (by decide), hu 62 (by decide) (by decide) (by decide) (by decide) (by decide)]
  · have := mt_congr (r' := f_row v2 64 63 14 63) e hI.1.1
    unfold mt at this
    rw [← c30, ← c31, ← c32] at this
    exact this
theorem m_go33 {K : am_K} {I : am_I} {d : Nat} {v u : am_V} {w : am_X} {Q : Option Value → am_H → Prop} {us : List lc_U} {z : Nat} {r : Nat → Int32} (hI : INV v) (hl : lw_is v us z) (hf : frC v u) (ht : mt u 33 34 35 r) (hr : rg r) (h0 : ¬ goB r → Q (some (.int 0)) (am_sh, u, w)) (h1 : goB r → ∀ u' : am_V, frC v u' → mt u' 33 34 35 (bt us (v 62 3) (v 62 4) r) → rg (bt us (v 62 3) (v 62 4) r) → Q (some (.int 1)) (am_sh, u', w)) : am_run K I am_m (d + 6) 133 [.ref 0, .ref 33] (am_sh, u, w) 0 0 Q := by
  obtain ⟨-, -, mi3, mi4, mi5, mi6⟩ := hI.2.2.1
  refine m_goesBy (Or.inr ⟨rfl, rfl, rfl⟩) ht hr (lw_frC hl hf) h0 (fun g u' f' m' => ?_)
  rw [hf 0 (by decide) (by decide) (by decide) (by decide) (by decide), mi3, mi4] at m'
  exact h1 g u' (fun k k1 k2 k3 k4 k5 => by rw [f' k k1 k2 k3 k4 k5, hf k k1 k2 k3 k4 k5]) m' (rg_bt hr g mi5.1 mi6.1)
/-- the reference tries: copies, breaths -/
theorem m_goR {K : am_K} {I : am_I} {d : Nat} {v u : am_V} {w : am_X} {Q : Option Value → am_H → Prop} {us : List lc_U} {z N : Nat} (hN : N ≤ 240) (hI : INV v) (hl : lw_is v us z) (hf : frC v u) (h : ∀ v' : am_V, frR (f_row u 63 64 14) v' → (∀ j, j < 14 → v' 63 j = stN (bt us (v 62 3) (v 62 4)) N (v 63) j) → v' 62 38 = acc (bt us (v 62 3) (v 62 4)) ac_1 N (v 63) 0 → v' 62 39 = acc (bt us (v 62 3) (v 62 4)) ac_th N (v 63) (bt_th (v 63)) → v' 62 40 = acc (bt us (v 62 3) (v 62 4)) ac_ap N (v 63) (bt_ap (v 63)) → (∀ i, i < 3 → v' 85 i = acc (bt us (v 62 3) (v 62 4)) (ac_nr i) N (v 63) 0) → (∀ i, i < 2 → v' 84 i = acc (bt us (v 62 3) (v 62 4)) (ac_of i) N (v 63) 0) → Q none (am_sh, v', w)) : am_run K I am_m (d + 6) 191 [.ref 62, .int (nI N)] (am_sh, f_row u 63 64 14, w) 0 0 Q := by
  obtain ⟨-, -, mi3, mi4, mi5, mi6⟩ := hI.2.2.1
  have b : ∀ k, k ≠ 64 → f_row u 63 64 14 k = u k := fun k hk => by
    funext y
    unfold f_row
    rw [if_neg (fun q => hk q.1)]
  have e62 : f_row u 63 64 14 62 = v 62 := by rw [b 62 (by decide), hf 62 (by decide) (by decide) (by decide) (by decide) (by decide)]
  have e63 : f_row u 63 64 14 63 = v 63 := by rw [b 63 (by decide), hf 63 (by decide) (by decide) (by decide) (by decide) (by decide)]
  exact m_breathsGo (r := v 63) hN (lw_is_of (lw_frC hl hf) (fun k hk => b k (by revert k; decide)) (by rw [b 62 (by decide)])) (by rw [e62]) (by rw [e62]) mi5.1 mi6.1 (fun j _ => by rw [e63]) hI.1.2 h
theorem tr_known {a : Int32} (h : (0 ≤ a ∧ a ≤ 2) ∨ (10 ≤ a ∧ a ≤ 11) ∨ (20 ≤ a ∧ a ≤ 21) ∨ (30 ≤ a ∧ a ≤ 31)) : a = 0 ∨ a = 1 ∨ a = 2 ∨ a = 10 ∨ a = 11 ∨ a = 20 ∨ a = 21 ∨ a = 30 ∨ a = 31 := by
  have t : (a.toInt = 0 ∨ a.toInt = 1 ∨ a.toInt = 2 ∨ a.toInt = 10 ∨ a.toInt = 11 ∨ a.toInt = 20 ∨ a.toInt = 21 ∨ a.toInt = 30 ∨ a.toInt = 31) := by
    simp only [Int32.le_iff_toInt_le] at h
    rw [show (0 : Int32).toInt = 0 from rfl, show (2 : Int32).toInt = 2 from rfl, show (10 : Int32).toInt = 10 from rfl, show (11 : Int32).toInt = 11 from rfl, show (20 : Int32).toInt = 20 from rfl, show (21 : Int32).toInt = 21 from rfl, show (30 : Int32).toInt = 30 from rfl, show (31 : Int32).toInt = 31 from rfl] at h
    omega
  rcases t with e | e | e | e | e | e | e | e | e
  · exact Or.inl (Int32.toInt_inj.mp e)
  · exact Or.inr (Or.inl (Int32.toInt_inj.mp e))
  · exact Or.inr (Or.inr (Or.inl (Int32.toInt_inj.mp e)))
  · exact Or.inr (Or.inr (Or.inr (Or.inl (Int32.toInt_inj.mp e))))
  · exact Or.inr (Or.inr (Or.inr (Or.inr (Or.inl (Int32.toInt_inj.mp e)))))
  · exact Or.inr (Or.inr (Or.inr (Or.inr (Or.inr (Or.inl (Int32.toInt_inj.mp e))))))
  · exact Or.inr (Or.inr (Or.inr (Or.inr (Or.inr (Or.inr (Or.inl (Int32.toInt_inj.mp e)))))))
  · exact Or.inr (Or.inr (Or.inr (Or.inr (Or.inr (Or.inr (Or.inr (Or.inl (Int32.toInt_inj.mp e))))))))
  · exact Or.inr (Or.inr (Or.inr (Or.inr (Or.inr (Or.inr (Or.inr (Or.inr (Int32.toInt_inj.mp e))))))))
def trA (a : Int32) (r : Nat → Int32) (g : Int32) : Int32 := if a = 0 then g else if a = 1 then (if r 0 = 0 ∧ r 1 = 0 then 1 else 0) else if a = 2 then lefB r else if a = 10 then r 0 else if a = 11 then r 1 else if a = 20 then r 4 else if a = 21 then r 5 else if a = 30 then r 2 else r 3
section M71
variable {K : am_K} {I : am_I} {d : Nat} {v : am_V} {w : am_X} {Q : Option Value → am_H → Prop} {P : am_C → Prop}
set_option maxRecDepth 100000 in
set_option maxHeartbeats 4000000 in
theorem m_triedKing_1 {k : Nat} (hk : k = 34 ∨ k = 35) (h : Q (some (.int (v k 0))) (am_sh, v, w)) : am_run K I am_m (d + 1) 134 [.ref k, .int 1] (am_sh, v, w) 0 0 Q := by
  rcases hk with rfl | rfl
  all_goals
    refine en_X11_triedKing rfl ?_
    intro P hP
    ((repeat' first | refine hP _ ?_ | fail); try dsimp only)
    refine ⟨fun _ => ?_, fun c => absurd (by decide) c⟩
    ((repeat' first | refine hP _ ?_ | fail); try dsimp only)
    exact h
set_option maxRecDepth 100000 in
set_option maxHeartbeats 4000000 in
theorem m_triedKing_2 {k : Nat} (hk : k = 34 ∨ k = 35) (h : Q (some (.int (v k 2))) (am_sh, v, w)) : am_run K I am_m (d + 1) 134 [.ref k, .int 2] (am_sh, v, w) 0 0 Q := by
  rcases hk with rfl | rfl
  all_goals
    refine en_X11_triedKing rfl ?_
    intro P hP
    ((repeat' first | refine hP _ ?_ | fail); try dsimp only)
    refine ⟨fun c => absurd c (by decide), fun _ => ⟨fun _ => ?_, fun c => absurd (by decide) c⟩⟩
    ((repeat' first | refine hP _ ?_ | fail); try dsimp only)
    exact h
set_option maxRecDepth 100000 in
set_option maxHeartbeats 4000000 in
theorem m_triedKing_3 {k : Nat} (hk : k = 34 ∨ k = 35) (h : Q (some (.int (v k 1))) (am_sh, v, w)) : am_run K I am_m (d + 1) 134 [.ref k, .int 3] (am_sh, v, w) 0 0 Q := by
  rcases hk with rfl | rfl
  all_goals
    refine en_X11_triedKing rfl ?_
    intro P hP
    ((repeat' first | refine hP _ ?_ | fail); try dsimp only)
    refine ⟨fun c => absurd c (by decide), fun _ => ⟨fun c => absurd c (by decide), fun _ => ?_⟩⟩
    ((repeat' first | refine hP _ ?_ | fail); try dsimp only)
    exact h
set_option maxRecDepth 100000 in
set_option maxHeartbeats 4000000 in
theorem lp_triedC {a n g : Int32} {r : Nat → Int32} (hP : ∀ c, am_step K I (am_run K I am_m (d + 7)) cd_X11_tried 0 0 Q P c → P c) (hm : mt v 33 34 35 r) (ha : (0 ≤ a ∧ a ≤ 2) ∨ (10 ≤ a ∧ a ≤ 11) ∨ (20 ≤ a ∧ a ≤ 21) ∨ (30 ≤ a ∧ a ≤ 31)) (h : Q (some (.int (trA a r g))) (am_sh, v, w)) : P (cd_X11_tried.drop 50, [some (.ref 0), some (.int n), some (.int a), some (.int 1), some (.int g)], [], (am_sh, v, w), 0, 0) := by
  have hm' := hm
  obtain ⟨⟨e0, e1, e2, e3, e4, e5⟩, -⟩ := hm'
  rcases tr_known ha with rfl | rfl | rfl | rfl | rfl | rfl | rfl | rfl | rfl
  · ((repeat' first | refine hP _ ?_ | fail); try dsimp only)
    refine ⟨⟨fun _ => ?_, fun c => absurd c (by decide), fun c => absurd c (by decide), trivial⟩, fun c => absurd c (by decide)⟩
    ((repeat' first | refine hP _ ?_ | fail); try dsimp only)
    exact h
  · ((repeat' first | refine hP _ ?_ | fail); try dsimp only)
    refine ⟨⟨fun c => absurd c (by decide), fun _ => ?_, fun c => absurd c (by decide), trivial⟩, fun c => absurd c (by decide)⟩
    ((repeat' first | refine hP _ ?_ | fail); try dsimp only)
    refine m_haveMet (Or.inr ⟨rfl, rfl, rfl⟩) hm (fun q => ?_) (fun q => ?_)
    · rw [show trA 1 r g = 1 from if_pos q] at h
      ((repeat' first | refine hP _ ?_ | fail); try dsimp only)
      refine ⟨fun c => absurd c (by decide), fun _ => ?_⟩
      ((repeat' first | refine hP _ ?_ | fail); try dsimp only)
      exact h
    · rw [show trA 1 r g = 0 from if_neg q] at h
      ((repeat' first | refine hP _ ?_ | fail); try dsimp only)
      refine ⟨fun _ => ?_, fun c => absurd rfl c⟩
      ((repeat' first | refine hP _ ?_ | fail); try dsimp only)
      exact h
  · ((repeat' first | refine hP _ ?_ | fail); try dsimp only)
    refine ⟨⟨fun c => absurd c (by decide), fun c => absurd c (by decide), fun _ => ?_, trivial⟩, fun c => absurd c (by decide)⟩
    ((repeat' first | refine hP _ ?_ | fail); try dsimp only)
    refine m_whoLeft (Or.inr ⟨rfl, rfl, rfl⟩) hm ?_
    ((repeat' first | refine hP _ ?_ | fail); try dsimp only)
    exact h
  · ((repeat' first | refine hP _ ?_ | fail); try dsimp only)
    refine ⟨⟨fun c => absurd c (by decide), fun c => absurd c (by decide), fun c => absurd c (by decide), trivial⟩, fun _ => ?_⟩
    ((repeat' first | refine hP _ ?_ | fail); try dsimp only)
    refine ⟨by decide, ?_⟩
    ((repeat' first | refine hP _ ?_ | fail); try dsimp only)
    refine m_X5_kingOf (Or.inr ⟨rfl, rfl, rfl⟩) (fun c => absurd c (by decide)) (fun _ => ?_)
    ((repeat' first | refine hP _ ?_ | fail); try dsimp only)
    refine ⟨by decide, ?_⟩
    ((repeat' first | refine hP _ ?_ | fail); try dsimp only)
    rw [show (10 : Int32) / 10 = 1 from by decide]
    refine m_triedKing_1 (by decide) ?_
    ((repeat' first | refine hP _ ?_ | fail); try dsimp only)
    rw [e0]
    exact h
  · ((repeat' first | refine hP _ ?_ | fail); try dsimp only)
    refine ⟨⟨fun c => absurd c (by decide), fun c => absurd c (by decide), fun c => absurd c (by decide), trivial⟩, fun _ => ?_⟩
    ((repeat' first | refine hP _ ?_ | fail); try dsimp only)
    refine ⟨by decide, ?_⟩
    ((repeat' first | refine hP _ ?_ | fail); try dsimp only)
    refine m_X5_kingOf (Or.inr ⟨rfl, rfl, rfl⟩) (fun _ => ?_) (fun c => absurd (by decide) c)
    ((repeat' first | refine hP _ ?_ | fail); try dsimp only)
    refine ⟨by decide, ?_⟩
    ((repeat' first | refine hP _ ?_ | fail); try dsimp only)
    rw [show (11 : Int32) / 10 = 1 from by decide]
    refine m_triedKing_1 (by decide) ?_
    ((repeat' first | refine hP _ ?_ | fail); try dsimp only)
    rw [e1]
    exact h
  · ((repeat' first | refine hP _ ?_ | fail); try dsimp only)
    refine ⟨⟨fun c => absurd c (by decide), fun c => absurd c (by decide), fun c => absurd c (by decide), trivial⟩, fun _ => ?_⟩
    ((repeat' first | refine hP _ ?_ | fail); try dsimp only)
    refine ⟨by decide, ?_⟩
    ((repeat' first | refine hP _ ?_ | fail); try dsimp only)
    refine m_X5_kingOf (Or.inr ⟨rfl, rfl, rfl⟩) (fun c => absurd c (by decide)) (fun _ => ?_)
    ((repeat' first | refine hP _ ?_ | fail); try dsimp only)
    refine ⟨by decide, ?_⟩
    ((repeat' first | refine hP _ ?_ | fail); try dsimp only)
    rw [show (20 : Int32) / 10 = 2 from by decide]
    refine m_triedKing_2 (by decide) ?_
    ((repeat' first | refine hP _ ?_ | fail); try dsimp only)
    rw [e4]
    exact h
  · ((repeat' first | refine hP _ ?_ | fail); try dsimp only)
    refine ⟨⟨fun c => absurd c (by decide), fun c => absurd c (by decide), fun c => absurd c (by decide), trivial⟩, fun _ => ?_⟩
    ((repeat' first | refine hP _ ?_ | fail); try dsimp only)
    refine ⟨by decide, ?_⟩
    ((repeat' first | refine hP _ ?_ | fail); try dsimp only)
    refine m_X5_kingOf (Or.inr ⟨rfl, rfl, rfl⟩) (fun _ => ?_) (fun c => absurd (by decide) c)
    ((repeat' first | refine hP _ ?_ | fail); try dsimp only)
    refine ⟨by decide, ?_⟩
    ((repeat' first | refine hP _ ?_ | fail); try dsimp only)
    rw [show (21 : Int32) / 10 = 2 from by decide]
    refine m_triedKing_2 (by decide) ?_
    ((repeat' first | refine hP _ ?_ | fail); try dsimp only)
    rw [e5]
    exact h
  · ((repeat' first | refine hP _ ?_ | fail); try dsimp only)
    refine ⟨⟨fun c => absurd c (by decide), fun c => absurd c (by decide), fun c => absurd c (by decide), trivial⟩, fun _ => ?_⟩
    ((repeat' first | refine hP _ ?_ | fail); try dsimp only)
    refine ⟨by decide, ?_⟩
    ((repeat' first | refine hP _ ?_ | fail); try dsimp only)
    refine m_X5_kingOf (Or.inr ⟨rfl, rfl, rfl⟩) (fun c => absurd c (by decide)) (fun _ => ?_)
    ((repeat' first | refine hP _ ?_ | fail); try dsimp only)
    refine ⟨by decide, ?_⟩
    ((repeat' first | refine hP _ ?_ | fail); try dsimp only)
    rw [show (30 : Int32) / 10 = 3 from by decide]
    refine m_triedKing_3 (by decide) ?_
    ((repeat' first | refine hP _ ?_ | fail); try dsimp only)
    rw [e2]
    exact h
  · ((repeat' first | refine hP _ ?_ | fail); try dsimp only)
    refine ⟨⟨fun c => absurd c (by decide), fun c => absurd c (by decide), fun c => absurd c (by decide), trivial⟩, fun _ => ?_⟩
    ((repeat' first | refine hP _ ?_ | fail); try dsimp only)
    refine ⟨by decide, ?_⟩
    ((repeat' first | refine hP _ ?_ | fail); try dsimp only)
    refine m_X5_kingOf (Or.inr ⟨rfl, rfl, rfl⟩) (fun _ => ?_) (fun c => absurd (by decide) c)
    ((repeat' first | refine hP _ ?_ | fail); try dsimp only)
    refine ⟨by decide, ?_⟩
    ((repeat' first | refine hP _ ?_ | fail); try dsimp only)
    rw [show (31 : Int32) / 10 = 3 from by decide]
    refine m_triedKing_3 (by decide) ?_
    ((repeat' first | refine hP _ ?_ | fail); try dsimp only)
    rw [e3]
    exact h
set_option maxRecDepth 100000 in
set_option maxHeartbeats 4000000 in
theorem lp_triedR {a n g : Int32} {r : Nat → Int32} (hP : ∀ c, am_step K I (am_run K I am_m (d + 7)) cd_X12_tried 0 0 Q P c → P c) (hm : ∀ j, j < 14 → v 63 j = r j) (hr : rg r) (hg : v 62 38 = g) (ha : (0 ≤ a ∧ a ≤ 2) ∨ (10 ≤ a ∧ a ≤ 11) ∨ (20 ≤ a ∧ a ≤ 21) ∨ (30 ≤ a ∧ a ≤ 31)) (h : Q (some (.int (trA a r g))) (am_sh, f_row v 64 63 14, w)) : P (cd_X12_tried.drop 35, [some (.ref 62), some (.int n), some (.int a), none], [], (am_sh, v, w), 0, 0) := by
  have fin : P (cd_X12_tried.drop 72, [some (.ref 62), some (.int n), some (.int a), some (.int (trA a r g))], [], (am_sh, v, w), 0, 0) := by
    ((repeat' first | refine hP _ ?_ | fail); try dsimp only)
    refine m_X12_copies (by decide) ?_
    ((repeat' first | refine hP _ ?_ | fail); try dsimp only)
    exact h
  rcases tr_known ha with rfl | rfl | rfl | rfl | rfl | rfl | rfl | rfl | rfl
  · ((repeat' first | refine hP _ ?_ | fail); try dsimp only)
    refine ⟨⟨fun _ => ?_, fun c => absurd c (by decide), fun c => absurd c (by decide), trivial⟩, fun c => absurd c (by decide)⟩
    ((iterate 4 refine hP _ ?_); try dsimp only)
    rw [hg]
    exact fin
  · ((repeat' first | refine hP _ ?_ | fail); try dsimp only)
    refine ⟨⟨fun c => absurd c (by decide), fun _ => ?_, fun c => absurd c (by decide), trivial⟩, fun c => absurd c (by decide)⟩
    ((repeat' first | refine hP _ ?_ | fail); try dsimp only)
    refine m_metR (fun q => ?_) (fun q => ?_)
    · rw [hm 0 (by decide), hm 1 (by decide)] at q
      rw [show trA 1 r g = 1 from if_pos q] at fin
      ((repeat' first | refine hP _ ?_ | fail); try dsimp only)
      refine ⟨fun c => absurd c (by decide), fun _ => ?_⟩
      ((iterate 4 refine hP _ ?_); try dsimp only)
      exact fin
    · rw [hm 0 (by decide), hm 1 (by decide)] at q
      rw [show trA 1 r g = 0 from if_neg q] at fin
      ((repeat' first | refine hP _ ?_ | fail); try dsimp only)
      refine ⟨fun _ => ?_, fun c => absurd rfl c⟩
      ((iterate 3 refine hP _ ?_); try dsimp only)
      exact fin
  · ((repeat' first | refine hP _ ?_ | fail); try dsimp only)
    refine ⟨⟨fun c => absurd c (by decide), fun c => absurd c (by decide), fun _ => ?_, trivial⟩, fun c => absurd c (by decide)⟩
    ((repeat' first | refine hP _ ?_ | fail); try dsimp only)
    refine m_goneR (by rw [hm 10 (by decide)]; exact hr.2.1.2.2.2.2.1) (by rw [hm 11 (by decide)]; exact hr.2.1.2.2.2.2.2) ?_
    rw [show lefB (v 63) = lefB r by unfold lefB; rw [hm 10 (by decide), hm 11 (by decide)]]
    ((iterate 2 refine hP _ ?_); try dsimp only)
    exact fin
  · ((repeat' first | refine hP _ ?_ | fail); try dsimp only)
    refine ⟨⟨fun c => absurd c (by decide), fun c => absurd c (by decide), fun c => absurd c (by decide), trivial⟩, fun _ => ?_⟩
    ((repeat' first | refine hP _ ?_ | fail); try dsimp only)
    refine ⟨fun c => absurd c (by decide), fun _ => ?_⟩
    ((repeat' first | refine hP _ ?_ | fail); try dsimp only)
    refine ⟨by decide, ?_⟩
    ((repeat' first | refine hP _ ?_ | fail); try dsimp only)
    refine ⟨am_vin (by decide), ?_⟩
    dsimp only
    rw [show Int32.toNatClampNeg (0 + am_rem 10 10) = 0 by decide, hm 0 (by decide)]
    ((iterate 1 refine hP _ ?_); try dsimp only)
    exact fin
  · ((repeat' first | refine hP _ ?_ | fail); try dsimp only)
    refine ⟨⟨fun c => absurd c (by decide), fun c => absurd c (by decide), fun c => absurd c (by decide), trivial⟩, fun _ => ?_⟩
    ((repeat' first | refine hP _ ?_ | fail); try dsimp only)
    refine ⟨fun c => absurd c (by decide), fun _ => ?_⟩
    ((repeat' first | refine hP _ ?_ | fail); try dsimp only)
    refine ⟨by decide, ?_⟩
    ((repeat' first | refine hP _ ?_ | fail); try dsimp only)
    refine ⟨am_vin (by decide), ?_⟩
    dsimp only
    rw [show Int32.toNatClampNeg (0 + am_rem 11 10) = 1 by decide, hm 1 (by decide)]
    ((iterate 1 refine hP _ ?_); try dsimp only)
    exact fin
  · ((repeat' first | refine hP _ ?_ | fail); try dsimp only)
    refine ⟨⟨fun c => absurd c (by decide), fun c => absurd c (by decide), fun c => absurd c (by decide), trivial⟩, fun _ => ?_⟩
    ((repeat' first | refine hP _ ?_ | fail); try dsimp only)
    refine ⟨fun _ => ?_, fun c => absurd (by decide) c⟩
    ((repeat' first | refine hP _ ?_ | fail); try dsimp only)
    refine ⟨fun c => absurd c (by decide), fun _ => ?_⟩
    ((repeat' first | refine hP _ ?_ | fail); try dsimp only)
    refine ⟨by decide, ?_⟩
    ((repeat' first | refine hP _ ?_ | fail); try dsimp only)
    refine ⟨am_vin (by decide), ?_⟩
    dsimp only
    rw [show Int32.toNatClampNeg (4 + am_rem 20 10) = 4 by decide, hm 4 (by decide)]
    ((iterate 1 refine hP _ ?_); try dsimp only)
    exact fin
  · ((repeat' first | refine hP _ ?_ | fail); try dsimp only)
    refine ⟨⟨fun c => absurd c (by decide), fun c => absurd c (by decide), fun c => absurd c (by decide), trivial⟩, fun _ => ?_⟩
    ((repeat' first | refine hP _ ?_ | fail); try dsimp only)
    refine ⟨fun _ => ?_, fun c => absurd (by decide) c⟩
    ((repeat' first | refine hP _ ?_ | fail); try dsimp only)
    refine ⟨fun c => absurd c (by decide), fun _ => ?_⟩
    ((repeat' first | refine hP _ ?_ | fail); try dsimp only)
    refine ⟨by decide, ?_⟩
    ((repeat' first | refine hP _ ?_ | fail); try dsimp only)
    refine ⟨am_vin (by decide), ?_⟩
    dsimp only
    rw [show Int32.toNatClampNeg (4 + am_rem 21 10) = 5 by decide, hm 5 (by decide)]
    ((iterate 1 refine hP _ ?_); try dsimp only)
    exact fin
  · ((repeat' first | refine hP _ ?_ | fail); try dsimp only)
    refine ⟨⟨fun c => absurd c (by decide), fun c => absurd c (by decide), fun c => absurd c (by decide), trivial⟩, fun _ => ?_⟩
    ((repeat' first | refine hP _ ?_ | fail); try dsimp only)
    refine ⟨fun _ => ?_, fun c => absurd (by decide) c⟩
    ((repeat' first | refine hP _ ?_ | fail); try dsimp only)
    refine ⟨fun _ => ?_, fun c => absurd (by decide) c⟩
    ((repeat' first | refine hP _ ?_ | fail); try dsimp only)
    refine ⟨by decide, ?_⟩
    ((repeat' first | refine hP _ ?_ | fail); try dsimp only)
    refine ⟨am_vin (by decide), ?_⟩
    dsimp only
    rw [show Int32.toNatClampNeg (2 + am_rem 30 10) = 2 by decide, hm 2 (by decide)]
    ((iterate 1 refine hP _ ?_); try dsimp only)
    exact fin
  · ((repeat' first | refine hP _ ?_ | fail); try dsimp only)
    refine ⟨⟨fun c => absurd c (by decide), fun c => absurd c (by decide), fun c => absurd c (by decide), trivial⟩, fun _ => ?_⟩
    ((repeat' first | refine hP _ ?_ | fail); try dsimp only)
    refine ⟨fun _ => ?_, fun c => absurd (by decide) c⟩
    ((repeat' first | refine hP _ ?_ | fail); try dsimp only)
    refine ⟨fun _ => ?_, fun c => absurd (by decide) c⟩
    ((repeat' first | refine hP _ ?_ | fail); try dsimp only)
    refine ⟨by decide, ?_⟩
    ((repeat' first | refine hP _ ?_ | fail); try dsimp only)
    refine ⟨am_vin (by decide), ?_⟩
    dsimp only
    rw [show Int32.toNatClampNeg (2 + am_rem 31 10) = 3 by decide, hm 3 (by decide)]
    ((iterate 1 refine hP _ ?_); try dsimp only)
    exact fin
end M71
set_option maxRecDepth 100000 in
set_option maxHeartbeats 4000000 in
theorem pr_tried {L : Nat} {xs : Nat → Int32} (n a : Int32) : am_pair L xs 110 193 [.int n, .int a] := by
  intro d v w Q hI h
  obtain ⟨ba, bb⟩ := iv_bits hI.1.1 hI.1.2
  obtain ⟨us, z, hl⟩ := lw_is_iff.mp hI.2.2.2.2.1
  refine en_X11_tried rfl ?_
  intro P hP
  -- refused
  have no : ((n < 1 ∨ 240 < n) ∨ ((a < 0 ∨ 2 < a) ∧ (a < 10 ∨ 11 < a) ∧ (a < 20 ∨ 21 < a) ∧ (a < 30 ∨ 31 < a))) → Q (some (.int (-1))) (am_sh, v, w) := by
    intro hc
    refine h (-1) v w (fun Q2 h2 => ?_)
    refine en_X12_tried rfl ?_
    intro P2 hP2
    ((repeat' first | refine hP2 _ ?_ | fail); try dsimp only)
    refine m_X12_in (fun e1 e2 => ?_) (fun e => ?_)
    · rcases hc with hc | ⟨c1, c2, c3, c4⟩
      · exact (am_no hc e1 e2).elim
      · ((repeat' first | refine hP2 _ ?_ | fail); try dsimp only)
        refine ⟨fun c => absurd c (by decide), fun _ => ?_⟩
        ((repeat' first | refine hP2 _ ?_ | fail); try dsimp only)
        refine m_X12_in0 c1 ?_
        ((repeat' first | refine hP2 _ ?_ | fail); try dsimp only)
        refine ⟨fun c => absurd rfl c, fun _ => ?_⟩
        ((repeat' first | refine hP2 _ ?_ | fail); try dsimp only)
        refine m_X12_in0 c2 ?_
        ((repeat' first | refine hP2 _ ?_ | fail); try dsimp only)
        refine ⟨fun c => absurd rfl c, fun _ => ?_⟩
        ((repeat' first | refine hP2 _ ?_ | fail); try dsimp only)
        refine m_X12_in0 c3 ?_
        ((repeat' first | refine hP2 _ ?_ | fail); try dsimp only)
        refine ⟨fun c => absurd rfl c, fun _ => ?_⟩
        ((repeat' first | refine hP2 _ ?_ | fail); try dsimp only)
        refine m_X12_in0 c4 ?_
        ((repeat' first | refine hP2 _ ?_ | fail); try dsimp only)
        refine ⟨fun c => absurd rfl c, fun _ => ?_⟩
        ((repeat' first | refine hP2 _ ?_ | fail); try dsimp only)
        exact h2 v w hI
    · ((repeat' first | refine hP2 _ ?_ | fail); try dsimp only)
      refine ⟨fun _ => ?_, fun c => absurd rfl c⟩
      ((repeat' first | refine hP2 _ ?_ | fail); try dsimp only)
      exact h2 v w hI
  -- known
  have kn : ((0 ≤ a ∧ a ≤ 2) ∨ (10 ≤ a ∧ a ≤ 11) ∨ (20 ≤ a ∧ a ≤ 21) ∨ (30 ≤ a ∧ a ≤ 31)) → P (cd_X11_tried.drop 20, [some (.ref 0), some (.int n), some (.int a), none, none], [], (am_sh, v, w), 0, 0) := by
    intro ha
    ((repeat' first | refine hP _ ?_ | fail); try dsimp only)
    refine m_X11_outside (fun c => ?_) (fun c1 c2 => ?_)
    · ((repeat' first | refine hP _ ?_ | fail); try dsimp only)
      refine ⟨fun _ => ?_, fun c => absurd c (by decide)⟩
      ((repeat' first | refine hP _ ?_ | fail); try dsimp only)
      exact no (Or.inl c)
    · obtain ⟨N, hN1, hN, rfl⟩ := am_nat1 c1 c2 (n := 240) rfl
      ((repeat' first | refine hP _ ?_ | fail); try dsimp only)
      refine ⟨fun c => absurd rfl c, fun _ => ?_⟩
      ((repeat' first | refine hP _ ?_ | fail); try dsimp only)
      refine ⟨fun _ => ?_, fun c => absurd c (by decide)⟩
      ((repeat' first | refine hP _ ?_ | fail); try dsimp only)
      refine m_X5_become (Or.inr (Or.inr ⟨rfl, rfl, rfl, rfl, rfl, rfl⟩)) ba bb ?_
      have key : ∀ (m g : Nat) (r : Nat → Int32) (u : am_V), g + m = N → mt u 33 34 35 r → rg r → frC v u → (∀ u' : am_V, frC v u' → mt u' 33 34 35 (stN (bt us (v 62 3) (v 62 4)) m r) → Q (some (.int (trA a (stN (bt us (v 62 3) (v 62 4)) m r) (acc (bt us (v 62 3) (v 62 4)) ac_1 m r (nI g))))) (am_sh, u', w)) → P (cd_X11_tried.drop 40, [some (.ref 0), some (.int (nI N)), some (.int a), some (.int 1), some (.int (nI g))], [], (am_sh, u, w), 0, 0) := by
        intro m
        induction m with
        | zero =>
          intro g r u hg hm hr hf h
          ((repeat' first | refine hP _ ?_ | fail); try dsimp only)
          refine ⟨fun _ => ?_, fun c => absurd (nI_le (a := N) (b := g) (by omega) (by omega)) c⟩
          exact lp_triedC hP hm ha (h u hf hm)
        | succ m ih =>
          intro g r u hg hm hr hf h
          ((repeat' first | refine hP _ ?_ | fail); try dsimp only)
          refine ⟨fun c => absurd c (nI_ge (by omega) (by omega)), fun _ => ?_⟩
          ((repeat' first | refine hP _ ?_ | fail); try dsimp only)
          refine m_go33 hI hl hf hm hr (fun g0 => ?_) (fun g0 u2 f2 m2 r2 => ?_)
          · ((repeat' first | refine hP _ ?_ | fail); try dsimp only)
            refine ⟨fun _ => ?_, fun c => absurd rfl c⟩
            have e := h u hf (by rw [stN_no g0]; exact hm)
            rw [acc_no g0, stN_no g0] at e
            exact lp_triedC hP hm ha e
          · ((repeat' first | refine hP _ ?_ | fail); try dsimp only)
            refine ⟨fun c => absurd c (by decide), fun _ => ?_⟩
            ((iterate 2 refine hP _ ?_); try dsimp only)
            rw [nI_1]
            refine ih (g + 1) _ u2 (by omega) m2 r2 f2 (fun u' f' m' => ?_)
            have e := h u' f' (by rw [stN_go g0]; exact m')
            rw [acc_go g0, stN_go g0, show ac_1 r (bt us (v 62 3) (v 62 4) r) (nI g) = nI (g + 1) from nI_1 g] at e
            exact e
      ((iterate 2 refine hP _ ?_); try dsimp only)
      refine key N 0 (v 63) _ (by omega) (f_meet_mt hI.1.1) hI.1.2 (fun k k1 k2 k3 _ _ => f_meet_o k1 k2 k3) (fun u' f' m' => ?_)
      refine h _ u' w (fun Q2 h2 => ?_)
      refine en_X12_tried rfl ?_
      intro P2 hP2
      have go : P2 (cd_X12_tried.drop 27, [some (.ref 62), some (.int (nI N)), some (.int a), none], [], (am_sh, u', w), 0, 0) := by
        ((repeat' first | refine hP2 _ ?_ | fail); try dsimp only)
        refine m_X12_copies (by decide) ?_
        ((repeat' first | refine hP2 _ ?_ | fail); try dsimp only)
        refine m_goR hN hI hl f' (fun v2 a1 a2 a3 a4 a5 a6 a7 => ?_)
        obtain ⟨-, -, mi3, mi4, mi5, mi6⟩ := hI.2.2.1
        exact lp_triedR hP2 a2 (rg_stN mi5.1 mi6.1 N hI.1.2) a3 ha (h2 _ w (hI.trial f' a1))
      ((repeat' first | refine hP2 _ ?_ | fail); try dsimp only)
      refine m_X12_in1 c1 c2 ?_
      ((repeat' first | refine hP2 _ ?_ | fail); try dsimp only)
      refine ⟨fun c => absurd c (by decide), fun _ => ?_⟩
      ((repeat' first | refine hP2 _ ?_ | fail); try dsimp only)
      refine m_X12_in (fun _ _ => ?_) (fun k1 => ?_)
      · ((repeat' first | refine hP2 _ ?_ | fail); try dsimp only)
        exact ⟨fun _ => go, fun c => absurd c (by decide)⟩
      ((repeat' first | refine hP2 _ ?_ | fail); try dsimp only)
      refine ⟨fun c => absurd rfl c, fun _ => ?_⟩
      ((repeat' first | refine hP2 _ ?_ | fail); try dsimp only)
      refine m_X12_in (fun _ _ => ?_) (fun k2 => ?_)
      · ((repeat' first | refine hP2 _ ?_ | fail); try dsimp only)
        exact ⟨fun _ => go, fun c => absurd c (by decide)⟩
      ((repeat' first | refine hP2 _ ?_ | fail); try dsimp only)
      refine ⟨fun c => absurd rfl c, fun _ => ?_⟩
      ((repeat' first | refine hP2 _ ?_ | fail); try dsimp only)
      refine m_X12_in (fun _ _ => ?_) (fun k3 => ?_)
      · ((repeat' first | refine hP2 _ ?_ | fail); try dsimp only)
        exact ⟨fun _ => go, fun c => absurd c (by decide)⟩
      ((repeat' first | refine hP2 _ ?_ | fail); try dsimp only)
      refine ⟨fun c => absurd rfl c, fun _ => ?_⟩
      ((repeat' first | refine hP2 _ ?_ | fail); try dsimp only)
      refine m_X12_in (fun _ _ => ?_) (fun k4 => ?_)
      · ((repeat' first | refine hP2 _ ?_ | fail); try dsimp only)
        exact ⟨fun _ => go, fun c => absurd c (by decide)⟩
      rcases ha with e | e | e | e
      · exact (am_no k1 e.1 e.2).elim
      · exact (am_no k2 e.1 e.2).elim
      · exact (am_no k3 e.1 e.2).elim
      · exact (am_no k4 e.1 e.2).elim
  ((repeat' first | refine hP _ ?_ | fail); try dsimp only)
  refine m_X11_outside (fun k1 => ?_) (fun e1 e2 => ?_)
  · ((repeat' first | refine hP _ ?_ | fail); try dsimp only)
    refine ⟨fun c => absurd c (by decide), fun _ => ?_⟩
    ((repeat' first | refine hP _ ?_ | fail); try dsimp only)
    refine m_X11_outside (fun k2 => ?_) (fun e1 e2 => ?_)
    · ((repeat' first | refine hP _ ?_ | fail); try dsimp only)
      refine ⟨fun c => absurd c (by decide), fun _ => ?_⟩
      ((repeat' first | refine hP _ ?_ | fail); try dsimp only)
      refine m_X11_outside (fun k3 => ?_) (fun e1 e2 => ?_)
      · ((repeat' first | refine hP _ ?_ | fail); try dsimp only)
        refine ⟨fun c => absurd c (by decide), fun _ => ?_⟩
        ((repeat' first | refine hP _ ?_ | fail); try dsimp only)
        refine m_X11_outside (fun k4 => ?_) (fun e1 e2 => ?_)
        · ((repeat' first | refine hP _ ?_ | fail); try dsimp only)
          refine ⟨fun _ => ?_, fun c => absurd c (by decide)⟩
          ((repeat' first | refine hP _ ?_ | fail); try dsimp only)
          refine m_X11_outside (fun c => ?_) (fun c1 c2 => ?_)
          · ((repeat' first | refine hP _ ?_ | fail); try dsimp only)
            refine ⟨fun _ => ?_, fun c => absurd c (by decide)⟩
            ((repeat' first | refine hP _ ?_ | fail); try dsimp only)
            exact no (Or.inl c)
          · ((repeat' first | refine hP _ ?_ | fail); try dsimp only)
            refine ⟨fun c => absurd rfl c, fun _ => ?_⟩
            ((repeat' first | refine hP _ ?_ | fail); try dsimp only)
            refine ⟨fun c => absurd rfl c, fun _ => ?_⟩
            ((repeat' first | refine hP _ ?_ | fail); try dsimp only)
            exact no (Or.inr ⟨k1, k2, k3, k4⟩)
        · ((repeat' first | refine hP _ ?_ | fail); try dsimp only)
          refine ⟨fun c => absurd rfl c, fun _ => ?_⟩
          exact kn (Or.inr (Or.inr (Or.inr ⟨e1, e2⟩)))
      · ((repeat' first | refine hP _ ?_ | fail); try dsimp only)
        refine ⟨fun _ => ?_, fun c => absurd rfl c⟩
        exact kn (Or.inr (Or.inr (Or.inl ⟨e1, e2⟩)))
    · ((repeat' first | refine hP _ ?_ | fail); try dsimp only)
      refine ⟨fun _ => ?_, fun c => absurd rfl c⟩
      exact kn (Or.inr (Or.inl ⟨e1, e2⟩))
  · ((repeat' first | refine hP _ ?_ | fail); try dsimp only)
    refine ⟨fun _ => ?_, fun c => absurd rfl c⟩
    exact kn (Or.inl ⟨e1, e2⟩)
