/-! ===== many breaths ===== -/
def gob (r : Nat → Int32) : Bool := decide (¬ (r 0 = 0 ∧ r 1 = 0) ∧ (r 10 = 0 ∧ r 11 = 0) ∧ r 12 < 9999)
theorem gob_iff {r : Nat → Int32} : gob r = true ↔ goB r := decide_eq_true_iff
/-- the state behind at most n breaths -/
def stN (f : (Nat → Int32) → Nat → Int32) : Nat → (Nat → Int32) → Nat → Int32
  | 0, r => r
  | n + 1, r => if gob r = true then stN f n (f r) else r
/-- a number kept over at most n breaths -/
def acc (f : (Nat → Int32) → Nat → Int32) (s : (Nat → Int32) → (Nat → Int32) → Int32 → Int32) : Nat → (Nat → Int32) → Int32 → Int32
  | 0, _, x => x
  | n + 1, r, x => if gob r = true then acc f s n (f r) (s r (f r) x) else x
def ac_1 : (Nat → Int32) → (Nat → Int32) → Int32 → Int32 := fun _ _ x => x + 1
def ac_th : (Nat → Int32) → (Nat → Int32) → Int32 → Int32 := fun _ r t => if t = -1 then bt_th r else t
def ac_ap : (Nat → Int32) → (Nat → Int32) → Int32 → Int32 := fun _ r x => f_mx x (bt_ap r)
def ac_nr (i : Nat) : (Nat → Int32) → (Nat → Int32) → Int32 → Int32 := fun _ r x => x + (if bt_nr r = i then 1 else 0)
def ac_of (i : Nat) : (Nat → Int32) → (Nat → Int32) → Int32 → Int32 := fun r r' x => x + (if r (4 + i) < r' (4 + i) then 1 else 0)
section M69
variable {f : (Nat → Int32) → Nat → Int32} {s : (Nat → Int32) → (Nat → Int32) → Int32 → Int32} {n : Nat} {r : Nat → Int32} {x : Int32}
theorem stN_no (h : ¬ goB r) : stN f n r = r := by
  cases n with
  | zero => rfl
  | succ n => exact if_neg (fun q => h (gob_iff.mp q))
theorem stN_go (h : goB r) : stN f (n + 1) r = stN f n (f r) := if_pos (gob_iff.mpr h)
theorem acc_no (h : ¬ goB r) : acc f s n r x = x := by
  cases n with
  | zero => rfl
  | succ n => exact if_neg (fun q => h (gob_iff.mp q))
theorem acc_go (h : goB r) : acc f s (n + 1) r x = acc f s n (f r) (s r (f r) x) := if_pos (gob_iff.mpr h)
end M69
theorem rg_stN {us : List lc_U} {mS mD : Int32} (hS : 0 ≤ mS) (hD : 0 ≤ mD) : ∀ (n : Nat) {r : Nat → Int32}, rg r → rg (stN (bt us mS mD) n r)
  | 0, _, h => h
  | n + 1, r, h => by
    by_cases g : goB r
    · rw [stN_go g]
      exact rg_stN hS hD n (rg_bt h g hS hD)
    · rw [stN_no g]
      exact h
theorem mt_congr {v : am_V} {c a b : Nat} {r r' : Nat → Int32} (h : ∀ j, j < 14 → r' j = r j) (hm : mt v c a b r) : mt v c a b r' := by
  unfold mt
  rw [h 0 (by decide), h 1 (by decide), h 2 (by decide), h 3 (by decide), h 4 (by decide), h 5 (by decide), h 6 (by decide), h 7 (by decide), h 8 (by decide), h 9 (by decide), h 10 (by decide), h 11 (by decide), h 12 (by decide), h 13 (by decide)]
  exact hm
def frR (v u : am_V) : Prop := (∀ k, (k < 62 ∨ 87 < k ∨ (63 < k ∧ k < 78)) → u k = v k) ∧ (∀ j, j ≠ 38 → j ≠ 39 → j ≠ 40 → u 62 j = v 62 j)
section M69b
variable {K : am_K} {I : am_I} {d : Nat} {v : am_V} {w : am_X} {Q : Option Value → am_H → Prop} {us : List lc_U} {z : Nat}
set_option maxRecDepth 100000 in
set_option maxHeartbeats 4000000 in
theorem m_breathsGo {N : Nat} (hN : N ≤ 240) (hl : lw_is v us z) {mS mD : Int32} (hmS : v 62 3 = mS) (hmD : v 62 4 = mD) (hS : 0 ≤ mS) (hD : 0 ≤ mD) {r : Nat → Int32} (he : ∀ j, j < 14 → v 63 j = r j) (hr : rg r) (h : ∀ v' : am_V, frR v v' → (∀ j, j < 14 → v' 63 j = stN (bt us mS mD) N r j) → v' 62 38 = acc (bt us mS mD) ac_1 N r 0 → v' 62 39 = acc (bt us mS mD) ac_th N r (bt_th r) → v' 62 40 = acc (bt us mS mD) ac_ap N r (bt_ap r) → (∀ i, i < 3 → v' 85 i = acc (bt us mS mD) (ac_nr i) N r 0) → (∀ i, i < 2 → v' 84 i = acc (bt us mS mD) (ac_of i) N r 0) → Q none (am_sh, v', w)) : am_run K I am_m (d + 6) 191 [.ref 62, .int (nI N)] (am_sh, v, w) 0 0 Q := by
  have hth : bt_th (v 63) = bt_th r := by unfold bt_th; rw [he 0 (by decide), he 1 (by decide)]
  have hap : bt_ap (v 63) = bt_ap r := by unfold bt_ap; rw [he 0 (by decide), he 1 (by decide)]
  refine en_X12_breathsGo rfl ?_
  intro P hP
  have key : ∀ (m k : Nat) (r : Nat → Int32) (u : am_V), k + m = N → frR v u → (∀ j, j < 14 → u 63 j = r j) → rg r → (∀ v' : am_V, frR v v' → (∀ j, j < 14 → v' 63 j = stN (bt us mS mD) m r j) → v' 62 38 = acc (bt us mS mD) ac_1 m r (u 62 38) → v' 62 39 = acc (bt us mS mD) ac_th m r (u 62 39) → v' 62 40 = acc (bt us mS mD) ac_ap m r (u 62 40) → (∀ i, i < 3 → v' 85 i = acc (bt us mS mD) (ac_nr i) m r (u 85 i)) → (∀ i, i < 2 → v' 84 i = acc (bt us mS mD) (ac_of i) m r (u 84 i)) → Q none (am_sh, v', w)) → P (cd_X12_breathsGo.drop 37, [some (.ref 62), some (.int (nI N)), some (.int (nI k))], [], (am_sh, u, w), 0, 0) := by
    intro m
    induction m with
    | zero =>
      intro k r u hk hf he hr h
      ((repeat' first | refine hP _ ?_ | fail); try dsimp only)
      refine ⟨fun _ => ?_, fun c => absurd (nI_le (a := N) (b := k) (by omega) (by omega)) c⟩
      ((repeat' first | refine hP _ ?_ | fail); try dsimp only)
      exact h u hf he rfl rfl rfl (fun _ _ => rfl) (fun _ _ => rfl)
    | succ m ih =>
      intro k r u hk hf he hr h
      have hb10 : iv_bit (u 63 10) := by rw [he 10 (by decide)]; exact hr.2.1.2.2.2.2.1
      have hb11 : iv_bit (u 63 11) := by rw [he 11 (by decide)]; exact hr.2.1.2.2.2.2.2
      ((repeat' first | refine hP _ ?_ | fail); try dsimp only)
      refine ⟨fun c => absurd c (nI_ge (by omega) (by omega)), fun _ => ?_⟩
      ((repeat' first | refine hP _ ?_ | fail); try dsimp only)
      refine m_goesOn hb10 hb11 (fun g => ?_) (fun g => ?_)
      · have g' := (goB_congr he).mp g
        have lu : lw_is u us z := lw_is_of hl (fun k hk => hf.1 k (by revert k; decide)) (hf.2 15 (by decide) (by decide) (by decide))
        ((repeat' first | refine hP _ ?_ | fail); try dsimp only)
        refine ⟨fun c => absurd c (by decide), fun _ => ?_⟩
        ((repeat' first | refine hP _ ?_ | fail); try dsimp only)
        refine m_breathR lu (rg_congr he hr) g (fun u2 f1 f2 e63 e38 e39 e40 e85 e84 => ?_)
        rw [hf.2 3 (by decide) (by decide) (by decide), hf.2 4 (by decide) (by decide) (by decide), hmS, hmD, bt_congr he] at e63 e39 e40 e85 e84
        ((iterate 2 refine hP _ ?_); try dsimp only)
        rw [nI_1]
        refine ih (k + 1) (bt us mS mD r) u2 (by omega) ⟨fun k hk => by rw [f1 k hk, hf.1 k hk], fun j h1 h2 h3 => by rw [f2 j h1 h2 h3, hf.2 j h1 h2 h3]⟩ e63 (rg_bt hr g' hS hD) (fun v' a1 a2 a3 a4 a5 a6 a7 => ?_)
        refine h v' a1 ?_ ?_ ?_ ?_ (fun i hi => ?_) (fun i hi => ?_)
        · rw [stN_go g']
          exact a2
        · rw [acc_go g', a3, e38]
          rfl
        · rw [acc_go g', a4, e39]
          rfl
        · rw [acc_go g', a5, e40]
          rfl
        · rw [acc_go g', a6 i hi, e85 i hi]
          rfl
        · rw [acc_go g', a7 i hi, e84 i hi, he (4 + i) (by omega)]
          rfl
      · have g' : ¬ goB r := fun q => g ((goB_congr he).mpr q)
        ((repeat' first | refine hP _ ?_ | fail); try dsimp only)
        refine ⟨fun _ => ?_, fun c => absurd rfl c⟩
        ((repeat' first | refine hP _ ?_ | fail); try dsimp only)
        refine h u hf ?_ ?_ ?_ ?_ (fun i _ => ?_) (fun i _ => ?_)
        · rw [stN_no g']
          exact he
        · rw [acc_no g']
        · rw [acc_no g']
        · rw [acc_no g']
        · rw [acc_no g']
        · rw [acc_no g']
  ((repeat' first | refine hP _ ?_ | fail); try dsimp only)
  refine m_there ?_
  ((repeat' first | refine hP _ ?_ | fail); try dsimp only)
  refine m_apart ?_
  ((repeat' first | refine hP _ ?_ | refine ⟨am_vin rfl, ?_⟩ | refine ⟨fun c1 => absurd c1 (by decide), fun _ => ?_⟩ | fail); try dsimp only)
  refine ⟨fun _ => ?_, fun c => absurd (by decide) c⟩
  ((repeat' first | refine hP _ ?_ | refine ⟨am_vin rfl, ?_⟩ | refine ⟨fun c1 => absurd c1 (by decide), fun _ => ?_⟩ | fail); try dsimp only)
  refine ⟨fun _ => ?_, fun c => absurd (by decide) c⟩
  ((iterate 2 refine hP _ ?_); try dsimp only)
  simp only [am_up_ne _ _ _ (show (63 : Nat) ≠ 62 by decide), hth, hap, tn_0, tn_0_1, show Int32.toNatClampNeg (0 + 1 + 1) = 2 from rfl]
  generalize hu : am_up _ _ _ _ = u
  have u84 : ∀ i, i < 2 → u 84 i = 0 := fun i hi => by
    rw [← hu]
    rcases (show i = 0 ∨ i = 1 by omega) with rfl | rfl <;> simp [am_up_eq]
  have u85 : ∀ i, i < 3 → u 85 i = 0 := fun i hi => by
    rw [← hu]
    rcases (show i = 0 ∨ i = 1 ∨ i = 2 by omega) with rfl | rfl | rfl <;> simp [am_up_eq]
  have u38 : u 62 38 = 0 := by rw [← hu]; simp [am_up_eq]
  have u39 : u 62 39 = bt_th r := by rw [← hu]; simp [am_up_eq]
  have u40 : u 62 40 = bt_ap r := by rw [← hu]; simp [am_up_eq]
  have fu : frR v u := ⟨fun k hk => by
    rw [← hu]
    simp only [am_up_ne _ _ _ (show k ≠ 62 by omega), am_up_ne _ _ _ (show k ≠ 84 by omega), am_up_ne _ _ _ (show k ≠ 85 by omega)], fun j h1 h2 h3 => by
    rw [← hu]
    simp [am_up_eq, h1, h2, h3]⟩
  have u63 : u 63 = v 63 := by
    rw [← hu]
    simp only [am_up_ne _ _ _ (show (63 : Nat) ≠ 62 by decide), am_up_ne _ _ _ (show (63 : Nat) ≠ 84 by decide), am_up_ne _ _ _ (show (63 : Nat) ≠ 85 by decide)]
  refine key N 0 r u (by omega) fu (by rw [u63]; exact he) hr (fun v' a1 a2 a3 a4 a5 a6 a7 => ?_)
  rw [u38] at a3
  rw [u39] at a4
  rw [u40] at a5
  exact h v' a1 a2 a3 a4 a5 (fun i hi => by rw [a6 i hi, u85 i hi]) (fun i hi => by rw [a7 i hi, u84 i hi])
end M69b
/-- what stays when the meeting has changed -/
theorem INV.mv {v v' : am_V} (hI : INV v) (h : ∀ k, k ∈ [0, 1, 2, 3, 4, 5, 6, 7, 22, 23, 24, 25, 36, 37, 38, 65, 66, 73, 74, 75, 76, 77, 88, 89, 93] → v' k = v k) (h62 : ∀ j, j ∈ [3, 4, 6, 15, 48, 62] → v' 62 j = v 62 j) (hm : iv_meet v' 30 31 32 63) (hg : iv_rng v' 63) : INV v' := by
  obtain ⟨-, hk, hmi, ht, hl, hr⟩ := hI
  refine ⟨⟨hm, hg⟩, ?_, ?_, ?_, ?_, ?_⟩
  · unfold iv_meet iv_rng
    rw [h 0 (by decide), h 36 (by decide), h 37 (by decide), h 38 (by decide), h 65 (by decide)]
    exact hk
  · unfold iv_misc
    rw [h 0 (by decide), h62 62 (by decide), h62 3 (by decide), h62 4 (by decide)]
    exact hmi
  · unfold iv_tape
    rw [h 1 (by decide), h 2 (by decide), h 66 (by decide), h62 6 (by decide)]
    exact ht
  · unfold iv_law
    rw [h 3 (by decide), h 4 (by decide), h 5 (by decide), h 6 (by decide), h 7 (by decide), h62 15 (by decide), h 73 (by decide), h 74 (by decide), h 75 (by decide), h 76 (by decide), h 77 (by decide)]
    exact hl
  · unfold iv_tre
    rw [h 22 (by decide), h 23 (by decide), h 24 (by decide), h 25 (by decide), h62 48 (by decide), h 88 (by decide), h 89 (by decide), h 93 (by decide)]
    exact hr
