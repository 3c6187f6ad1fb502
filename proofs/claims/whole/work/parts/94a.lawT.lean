/-! ===== THE LAW read by the reference: sums, by their parts ===== -/
section M94
variable (K : am_K) (I : am_I) (d : Nat) (w : am_X) (Q : Option Value → am_H → Prop) (P : am_C → Prop) (T : Nat → Int32) (n : Nat) (bs : List (Nat × Nat))
def sErr (r : lp_R) (v : am_V) (z : Nat) : Prop := ∀ e v', r = some (.error e) → rsf v v' z → v' 62 9 = flt e → Q (some (.int 0)) (am_sh, v', w)
def FAC (F : Nat) : Prop := ∀ (p oo z : Nat) (ext : List (Nat × Nat)) (v : am_V), (∃ r, lpr T n F 0 p oo = some r) → rs_pre v T n p oo z (ext ++ bs) → sErr w Q (lpr T n F 0 p oo) v z → (∀ p1 c v', lpr T n F 0 p oo = some (.ok (p1, c)) → rsf v v' z → rs_pre v' T n p1 oo (z + c.length) (ext ++ bs) → cdR (v' 67) z c → LHd P w bs.length v') → CFd K I d P Q w bs.length v
def TRM (F : Nat) : Prop := ∀ (p oo z : Nat) (ext : List (Nat × Nat)) (v : am_V), (∃ r, lpr T n F 1 p oo = some r) → nomu (ext ++ bs) → rs_pre v T n p oo z (ext ++ bs) → sErr w Q (lpr T n F 1 p oo) v z → (∀ p1 c dd pm v', lpr T n F 1 p oo = some (.ok (p1, c)) → dd ++ pl pm = c → isMu pm → onl muL (cc T n p1) = false → rsf v v' z → rs_pre v' T n p1 oo (z + dd.length) (pl pm ++ (ext ++ bs)) → cdR (v' 67) z dd → LHd P w bs.length v') → CFd K I d P Q w bs.length v
def TTL (F : Nat) : Prop := ∀ (p oo z : Nat) (ext : List (Nat × Nat)) (pm : Option Nat) (v : am_V), (∃ r, lpr T n F 2 p oo = some r) → isMu pm → nomu (ext ++ bs) → rs_pre v T n p oo z (pl pm ++ (ext ++ bs)) → sErr w Q (lpr T n F 2 p oo) v z → (∀ p1 c dd pm' v', lpr T n F 2 p oo = some (.ok (p1, c)) → dd ++ pl pm' = pl pm ++ c → isMu pm' → onl muL (cc T n p1) = false → rsf v v' z → rs_pre v' T n p1 oo (z + dd.length) (pl pm' ++ (ext ++ bs)) → cdR (v' 67) z dd → LHd P w bs.length v') → LHd P w bs.length v
def SUM (F : Nat) : Prop := ∀ (p oo z : Nat) (ext : List (Nat × Nat)) (v : am_V), (∃ r, lpr T n F 3 p oo = some r) → nosu (ext ++ bs) → rs_pre v T n p oo z (ext ++ bs) → sErr w Q (lpr T n F 3 p oo) v z → (∀ p1 c dd pm pa v', lpr T n F 3 p oo = some (.ok (p1, c)) → dd ++ (pl pm ++ pl pa) = c → isMu pm → isAd pa → onl muL (cc T n p1) = false → onl adL (cc T n p1) = false → rsf v v' z → rs_pre v' T n p1 oo (z + dd.length) (pl pm ++ (pl pa ++ (ext ++ bs))) → cdR (v' 67) z dd → LHd P w bs.length v') → CFd K I d P Q w bs.length v
def STL (F : Nat) : Prop := ∀ (p oo z : Nat) (ext : List (Nat × Nat)) (pm pa : Option Nat) (v : am_V), (∃ r, lpr T n F 4 p oo = some r) → isMu pm → isAd pa → nosu (ext ++ bs) → onl muL (cc T n p) = false → rs_pre v T n p oo z (pl pm ++ (pl pa ++ (ext ++ bs))) → sErr w Q (lpr T n F 4 p oo) v z → (∀ p1 c dd pm' pa' v', lpr T n F 4 p oo = some (.ok (p1, c)) → dd ++ (pl pm' ++ pl pa') = pl pm ++ (pl pa ++ c) → isMu pm' → isAd pa' → onl muL (cc T n p1) = false → onl adL (cc T n p1) = false → rsf v v' z → rs_pre v' T n p1 oo (z + dd.length) (pl pm' ++ (pl pa' ++ (ext ++ bs))) → cdR (v' 67) z dd → LHd P w bs.length v') → LHd P w bs.length v
end M94
section M94b
variable {K : am_K} {I : am_I} {d : Nat} {w : am_X} {Q : Option Value → am_H → Prop} {P : am_C → Prop} {T : Nat → Int32} {n : Nat} {bs : List (Nat × Nat)}
theorem lp_sub2 {r r2 : lp_R} {p : Nat} {c : List lc_O} {k : Nat → List lc_O → lp_R} {k2 : Nat → List lc_O → lp_R} (h : ∃ x, lpb r k = some x) (hr : r = some (.ok (p, c))) (hk : k p c = lpb r2 k2) : ∃ x, r2 = some x := by
  rw [hr] at h
  unfold lpb at h
  dsimp only at h
  rw [hk] at h
  exact lp_sub h
theorem nomu_su {ws : List (Nat × Nat)} (h : nosu ws) : nomu ws := fun x l e q => h x l e (by omega)
theorem nomu_ad {k : Nat} {ws : List (Nat × Nat)} (h : 2 ≤ k ∧ k ≤ 3) : nomu ((k, 0) :: ws) := by
  intro x l e
  have : (k, 0) = x := (List.cons.inj e).1
  rw [← this]
  show ¬ (4 ≤ k ∧ k ≤ 6)
  omega
theorem ttl_s {F : Nat} (hP : ∀ c, am_step K I (am_run K I am_m (d + 5)) cd_X12_readsSum 0 0 Q P c → P c) (hF : FAC K I d w Q P T n bs F) (hT : TTL w Q P T n bs F) : TTL w Q P T n bs (F + 1) := by
  intro p oo z ext pm v hs hpm hno hpre hE hO
  rw [lpr_2] at hs
  unfold sErr at hE
  rw [lpr_2] at hE
  simp only [lpr_2] at hO
  cases hq : onl muL (cc T n p) with
  | false =>
    rw [if_neg (by rw [hq]; decide)] at hO
    exact hO p [] [] pm v rfl (by simp) hpm hq rsf.rf (by simpa using hpre) cdR.nil
  | true =>
    rw [if_pos hq] at hs hE hO
    have hk := mu_k hq
    have cl := cl_f hpm hno
    refine LH_sign (b := bs.length) (all := false) hP hpre (Or.inl ⟨rfl, hq⟩) (fun v2 f2 p2 c2 => ?_)
    rw [cl] at p2 c2
    dsimp only at p2 c2
    have hs1 := lp_sub hs
    refine hF (p + 1) oo (z + (pl pm).length) ((sgK (cc T n p), 0) :: ext) v2 hs1 p2 (fun e v' he f' h9 => ?_) (fun p1 c1 v3 he f3 p3 g3 => ?_)
    · refine hE e v' ?_ (f2.tr f' (by omega)) h9
      rw [he]
      rfl
    · have hs2 := lp_sub2 hs he rfl
      have f23 := f2.tr f3 (show z ≤ z + (pl pm).length by omega)
      refine hT p1 oo (z + (pl pm).length + c1.length) ext (some (sgK (cc T n p))) v3 hs2 (fun k hk' => by cases hk'; exact ⟨hk.1, hk.2.1⟩) hno p3 (fun e v' he' f' h9 => ?_) (fun q1 cc1 dd pm' v' he' hd hpm' hmu f' p' g' => ?_)
      · refine hE e v' ?_ (f23.tr f' (by omega)) h9
        rw [he]
        show lpb (lpr T n F 2 p1 oo) _ = _
        rw [he']
        rfl
      · refine hO q1 (c1 ++ (sgK (cc T n p), 0) :: cc1) (pl pm ++ (c1 ++ dd)) pm' v' ?_ ?_ hpm' hmu (f23.tr f' (by omega)) ?_ ?_
        · rw [he]
          show lpb (lpr T n F 2 p1 oo) _ = _
          rw [he']
          rfl
        · rw [List.append_assoc, List.append_assoc, hd]
          rfl
        · rw [List.length_append, List.length_append, show z + ((pl pm).length + (c1.length + dd.length)) = z + (pl pm).length + c1.length + dd.length by omega]
          exact p'
        · refine cdR.app (c2.of (fun i _ hi => ?_)) (cdR.app (g3.of (fun i _ hi => ?_)) g')
          · rw [f'.2.2 i (by omega), f3.2.2 i (by omega)]
          · rw [f'.2.2 i (by omega)]
theorem trm_s {F : Nat} (hF : FAC K I d w Q P T n bs F) (hT : TTL w Q P T n bs F) : TRM K I d w Q P T n bs (F + 1) := by
  intro p oo z ext v hs hno hpre hE hO
  rw [lpr_1] at hs
  unfold sErr at hE
  rw [lpr_1] at hE
  simp only [lpr_1] at hO
  refine hF p oo z ext v (lp_sub hs) hpre (fun e v' he f' h9 => ?_) (fun p1 c1 v3 he f3 p3 g3 => ?_)
  · refine hE e v' ?_ f' h9
    rw [he]
    rfl
  · have hs2 := lp_sub2 hs he rfl
    refine hT p1 oo (z + c1.length) ext none v3 hs2 (fun k hk' => by cases hk') hno p3 (fun e v' he' f' h9 => ?_) (fun q1 cc1 dd pm' v' he' hd hpm' hmu f' p' g' => ?_)
    · refine hE e v' ?_ (f3.tr f' (by omega)) h9
      rw [he]
      show lpb (lpr T n F 2 p1 oo) _ = _
      rw [he']
      rfl
    · refine hO q1 (c1 ++ cc1) (c1 ++ dd) pm' v' ?_ ?_ hpm' hmu (f3.tr f' (by omega)) ?_ ?_
      · rw [he]
        show lpb (lpr T n F 2 p1 oo) _ = _
        rw [he']
        rfl
      · rw [List.append_assoc, hd]
        rfl
      · rw [List.length_append, ← Nat.add_assoc]
        exact p'
      · exact cdR.app (g3.of (fun i _ hi => f'.2.2 i (by omega))) g'
theorem stl_s {F : Nat} (hP : ∀ c, am_step K I (am_run K I am_m (d + 5)) cd_X12_readsSum 0 0 Q P c → P c) (hF : TRM K I d w Q P T n bs F) (hT : STL w Q P T n bs F) : STL w Q P T n bs (F + 1) := by
  intro p oo z ext pm pa v hs hpm hpa hno hmu hpre hE hO
  rw [lpr_4] at hs
  unfold sErr at hE
  rw [lpr_4] at hE
  simp only [lpr_4] at hO
  cases hq : onl adL (cc T n p) with
  | false =>
    rw [if_neg (by rw [hq]; decide)] at hO
    exact hO p [] [] pm pa v rfl (by simp) hpm hpa hmu hq rsf.rf (by simpa using hpre) cdR.nil
  | true =>
    rw [if_pos hq] at hs hE hO
    have hk := ad_k hq
    have cl := cl_t hpm hpa hno
    refine LH_sign (b := bs.length) (all := true) hP hpre (Or.inr ⟨rfl, hq⟩) (fun v2 f2 p2 c2 => ?_)
    rw [cl] at p2 c2
    dsimp only at p2 c2
    refine hF (p + 1) oo (z + (pl pm ++ pl pa).length) ((sgK (cc T n p), 0) :: ext) v2 (lp_sub hs) (nomu_ad ⟨hk.1, hk.2.1⟩) p2 (fun e v' he f' h9 => ?_) (fun p1 c1 d1 pm1 v3 he hd1 hpm1 hmu1 f3 p3 g3 => ?_)
    · refine hE e v' ?_ (f2.tr f' (by omega)) h9
      rw [he]
      rfl
    · have hs2 := lp_sub2 hs he rfl
      have f23 := f2.tr f3 (show z ≤ z + (pl pm ++ pl pa).length by omega)
      refine hT p1 oo (z + (pl pm ++ pl pa).length + d1.length) ext pm1 (some (sgK (cc T n p))) v3 hs2 hpm1 (fun k hk' => by cases hk'; exact ⟨hk.1, hk.2.1⟩) hno hmu1 p3 (fun e v' he' f' h9 => ?_) (fun q1 cc1 dd pm' pa' v' he' hd hpm' hpa' hmu' had' f' p' g' => ?_)
      · refine hE e v' ?_ (f23.tr f' (by omega)) h9
        rw [he]
        show lpb (lpr T n F 4 p1 oo) _ = _
        rw [he']
        rfl
      · refine hO q1 (c1 ++ (sgK (cc T n p), 0) :: cc1) ((pl pm ++ pl pa) ++ (d1 ++ dd)) pm' pa' v' ?_ ?_ hpm' hpa' hmu' had' (f23.tr f' (by omega)) ?_ ?_
        · rw [he]
          show lpb (lpr T n F 4 p1 oo) _ = _
          rw [he']
          rfl
        · rw [List.append_assoc, List.append_assoc, List.append_assoc, hd, ← hd1, List.append_assoc]
          rfl
        · rw [show z + ((pl pm ++ pl pa) ++ (d1 ++ dd)).length = z + (pl pm ++ pl pa).length + d1.length + dd.length by simp only [List.length_append]; omega]
          exact p'
        · refine cdR.app (c2.of (fun i _ hi => ?_)) (cdR.app (g3.of (fun i _ hi => ?_)) g')
          · rw [f'.2.2 i (by omega), f3.2.2 i (by omega)]
          · rw [f'.2.2 i (by omega)]
theorem sum_s {F : Nat} (hF : TRM K I d w Q P T n bs F) (hT : STL w Q P T n bs F) : SUM K I d w Q P T n bs (F + 1) := by
  intro p oo z ext v hs hno hpre hE hO
  rw [lpr_3] at hs
  unfold sErr at hE
  rw [lpr_3] at hE
  simp only [lpr_3] at hO
  refine hF p oo z ext v (lp_sub hs) (nomu_su hno) hpre (fun e v' he f' h9 => ?_) (fun p1 c1 d1 pm1 v3 he hd1 hpm1 hmu1 f3 p3 g3 => ?_)
  · refine hE e v' ?_ f' h9
    rw [he]
    rfl
  · have hs2 := lp_sub2 hs he rfl
    refine hT p1 oo (z + d1.length) ext pm1 none v3 hs2 hpm1 (fun k hk' => by cases hk') hno hmu1 p3 (fun e v' he' f' h9 => ?_) (fun q1 cc1 dd pm' pa' v' he' hd hpm' hpa' hmu' had' f' p' g' => ?_)
    · refine hE e v' ?_ (f3.tr f' (by omega)) h9
      rw [he]
      show lpb (lpr T n F 4 p1 oo) _ = _
      rw [he']
      rfl
    · refine hO q1 (c1 ++ cc1) (d1 ++ dd) pm' pa' v' ?_ ?_ hpm' hpa' hmu' had' (f3.tr f' (by omega)) ?_ ?_
      · rw [he]
        show lpb (lpr T n F 4 p1 oo) _ = _
        rw [he']
        rfl
      · rw [List.append_assoc, hd, ← hd1, List.append_assoc]
        rfl
      · rw [List.length_append, ← Nat.add_assoc]
        exact p'
      · exact cdR.app (g3.of (fun i _ hi => f'.2.2 i (by omega))) g'
set_option maxRecDepth 100000 in
set_option maxHeartbeats 4000000 in
theorem fac_s {F : Nat} (hP : ∀ c, am_step K I (am_run K I am_m (d + 5)) cd_X12_readsSum 0 0 Q P c → P c) (hS : SUM K I d w Q P T n bs F) : FAC K I d w Q P T n bs (F + 1) := by
  intro p oo z ext v hs hpre hE hO Qf q1 q0
  have hn := hpre.1.2.2.1
  have hpn := hpre.1.2.2.2
  have hb := hpre.2.2.2.1
  rw [lpr_0] at hs
  unfold sErr at hE
  rw [lpr_0] at hE
  simp only [lpr_0] at hO
  refine en_X12_readsFactor rfl ?_
  intro P2 hP2
  ((repeat' first | refine hP2 _ ?_ | fail); try dsimp only)
  refine m_here hpre.1 ?_
  ((repeat' first | refine hP2 _ ?_ | fail); try dsimp only)
  refine ⟨fun n91 => ?_, fun c91 => ?_⟩
  · rw [if_neg n91] at hE hO
    ((repeat' first | refine hP2 _ ?_ | fail); try dsimp only)
    refine m_isDig hpre.1 ?_
    ((repeat' first | refine hP2 _ ?_ | fail); try dsimp only)
    cases hd : onl dgL (cc T n p) with
    | true =>
      have nl : onl ltL (cc T n p) = false := by
        rw [onl_iff] at hd
        simp [dgL] at hd
        rcases hd with e | e | e | e | e | e | e | e | e | e <;> rw [e] <;> decide
      rw [if_neg (by rw [nl]; decide)] at hE hO
      refine ⟨fun c => absurd c (by decide), fun _ => ?_⟩
      ((repeat' first | refine hP2 _ ?_ | fail); try dsimp only)
      refine m_number5 hpre.1 hd (fun e v' he f1 h9 => ?_) (fun p1 x v' he f1 h7 hp1 h10 => ?_)
      · rw [he] at hE
        ((repeat' first | refine hP2 _ ?_ | fail); try dsimp only)
        refine ⟨fun c => absurd rfl c, fun _ => ?_⟩
        ((repeat' first | refine hP2 _ ?_ | fail); try dsimp only)
        exact ⟨Or.inl rfl, q0 v' (hE e v' rfl ⟨fun c a _ _ => f1.1 c a, fun j a b c _ _ _ => f1.2 j a b c, fun i _ => by rw [f1.1 67 (by decide)]⟩ h9)⟩
      · rw [he] at hO
        obtain ⟨l1, l2, l3⟩ := numF_ok hpn he
        have fr1 : rsf v v' z := ⟨fun c a _ _ => f1.1 c a, fun j a b c _ _ _ => f1.2 j a b c, fun i _ => by rw [f1.1 67 (by decide)]⟩
        have pr1 : rs_pre v' T n p1 oo z (ext ++ bs) := ⟨hpre.1.of f1 h7 hp1, ⟨by rw [f1.2 11 (by decide) (by decide) (by decide)]; exact hpre.2.1.1, by rw [f1.2 12 (by decide) (by decide) (by decide)]; exact hpre.2.1.2.1, by rw [f1.2 13 (by decide) (by decide) (by decide)]; exact hpre.2.1.2.2⟩, by rw [f1.1 68 (by decide)]; exact hpre.2.2.1, ⟨by omega, by omega, hb.2.2⟩, hpre.2.2.2.2⟩
        ((repeat' first | refine hP2 _ ?_ | fail); try dsimp only)
        refine ⟨fun _ => ?_, fun c => absurd c (by decide)⟩
        ((repeat' first | refine hP2 _ ?_ | fail); try dsimp only)
        rw [h10]
        show am_run K I am_m (d + 4) 157 [.ref 62, .int (nI 0), .int (nI x)] _ _ _ _
        refine m_notes (k := 0) pr1 (by omega) (by omega) (by omega) (fun v2 f2 g2 g12 g68 g67 => ?_)
        ((repeat' first | refine hP2 _ ?_ | fail); try dsimp only)
        refine ⟨Or.inr rfl, q1 v2 (hO p1 [(0, x)] v2 rfl (fr1.tr f2 (Nat.le_refl _)) ⟨pr1.1.u ?_ ?_ ?_ hp1, ⟨?_, g12, ?_⟩, ?_, ⟨?_, ?_, hb.2.2⟩, hpre.2.2.2.2⟩ (cdR.one ?_))⟩
        · exact f2.1 66 (by decide) (by decide) (by decide)
        · rw [g2 7 (by decide)]
          exact h7
        · exact g2 8 (by decide)
        · rw [g2 11 (by decide)]
          exact pr1.2.1.1
        · rw [g2 13 (by decide)]
          exact pr1.2.1.2.2
        · rw [g68]
          exact pr1.2.2.1
        · show z + 1 + wc (ext ++ bs) ≤ p1
          omega
        · omega
        · rw [g67]
          rfl
    | false =>
      refine ⟨fun _ => ?_, fun c => absurd rfl c⟩
      ((repeat' first | refine hP2 _ ?_ | fail); try dsimp only)
      refine m_here hpre.1 ?_
      ((repeat' first | refine hP2 _ ?_ | fail); try dsimp only)
      refine m_factOf (fun hl => ?_) (fun hl => ?_)
      · rw [if_pos hl] at hO
        have hpl := onl_lt lt_m1 hl
        obtain ⟨j, hj, e1, e2⟩ := lt_i hl
        rw [e2] at hO ⊢
        ((repeat' first | refine hP2 _ ?_ | fail); try dsimp only)
        refine ⟨fun _ => ?_, fun c => absurd c (nI_nm1 (by omega)).1⟩
        ((repeat' first | refine hP2 _ ?_ | fail); try dsimp only)
        show am_run K I am_m (d + 4) 157 [.ref 62, .int (nI 1), .int (nI j)] _ _ _ _
        refine m_notes (k := 1) hpre (by omega) (by omega) (by omega) (fun v2 f2 g2 g12 g68 g67 => ?_)
        ((repeat' first | refine hP2 _ ?_ | fail); try dsimp only)
        rw [g2 7 (by decide), hpre.1.1.1, nI_1]
        refine ⟨Or.inr rfl, q1 _ (hO (p + 1) [(1, j)] _ rfl (f2.u62 (by omega) _) ⟨hpre.1.u ?_ ?_ ?_ hpl, ⟨?_, ?_, ?_⟩, ?_, ⟨?_, ?_, hb.2.2⟩, hpre.2.2.2.2⟩ (cdR.one ?_))⟩
        · rw [am_up_ne _ _ _ (by decide)]
          exact f2.1 66 (by decide) (by decide) (by decide)
        · rw [am_up_eq, if_pos ⟨rfl, rfl⟩]
        · rw [am_up_eq, if_neg (by decide), g2 8 (by decide)]
        · rw [am_up_eq, if_neg (by decide), g2 11 (by decide)]
          exact hpre.2.1.1
        · rw [am_up_eq, if_neg (by decide), g12]
          rfl
        · rw [am_up_eq, if_neg (by decide), g2 13 (by decide)]
          exact hpre.2.1.2.2
        · rw [am_up_ne _ _ _ (by decide), g68]
          exact hpre.2.2.1
        · show z + 1 + wc (ext ++ bs) ≤ p + 1
          omega
        · omega
        · rw [am_up_ne _ _ _ (by decide), g67]
          rfl
      · rw [if_neg (by rw [hl]; decide)] at hE
        have hnum : numF T n 5 p = .error (1, p) := by
          unfold numF
          rw [if_pos (show nd T n 5 p = 0 by unfold nd; rw [hd]; rfl)]
        rw [hnum] at hE
        ((repeat' first | refine hP2 _ ?_ | fail); try dsimp only)
        refine ⟨fun c => absurd rfl c, fun _ => ?_⟩
        ((repeat' first | refine hP2 _ ?_ | fail); try dsimp only)
        rw [hpre.1.1.1]
        refine m_wrongAt ?_
        ((repeat' first | refine hP2 _ ?_ | fail); try dsimp only)
        exact ⟨Or.inl rfl, q0 _ (hE (1, p) _ rfl (rsf.rf.u62 (by omega) _) (by rw [am_up_eq, if_pos ⟨rfl, rfl⟩]; rfl))⟩
  · rw [if_pos c91] at hs hE hO
    have hpl := cc_p c91 (by decide)
    ((repeat' first | refine hP2 _ ?_ | fail); try dsimp only)
    show am_run K I am_m (d + 4) 158 [.ref 62, .int (nI 14)] _ _ _ _
    refine m_opensR (k := 14) hpre (by omega) (by omega) hpl (fun h6 v' f1 h9 => ?_) (fun h6 v1 f1 p1 e67 => ?_)
    · rw [if_pos (by omega)] at hE
      ((repeat' first | refine hP2 _ ?_ | fail); try dsimp only)
      refine ⟨fun c => absurd rfl c, fun _ => ?_⟩
      ((repeat' first | refine hP2 _ ?_ | fail); try dsimp only)
      exact ⟨Or.inl rfl, q0 v' (hE (5, p) v' rfl f1 h9)⟩
    · rw [if_neg (by omega)] at hs hE hO
      -- the sum within
      have inner : CFd K I d P Q w bs.length v1 := by
        refine hS (p + 1) (oo + 1) z ((14, 0) :: ext) v1 (lp_sub hs) (fun x l e q => ?_) p1 (fun e v' he f' h9 => ?_) (fun p2 c dd pm pa v' he hd hpm hpa hmu had f' p' g' => ?_)
        · have : (14, 0) = x := (List.cons.inj e).1
          rw [← this] at q
          have q2 : 14 ≤ 6 := q.2
          omega
        · refine hE e v' ?_ (f1.tr f' (Nat.le_refl _)) h9
          rw [he]
          rfl
        · have cl := cl_t (ws := (14, 0) :: (ext ++ bs)) hpm hpa (fun x l e q => by
            have : (14, 0) = x := (List.cons.inj e).1
            rw [← this] at q
            have q2 : 14 ≤ 6 := q.2
            omega)
          have eq1 : pl pm ++ (pl pa ++ (((14, 0) :: ext) ++ bs)) = (pl pm ++ (pl pa ++ ((14, 0) :: ext))) ++ bs := by simp
          have eq2 : (pl pm ++ (pl pa ++ ((14, 0) :: ext))) ++ bs = pl pm ++ (pl pa ++ ((14, 0) :: (ext ++ bs))) := by simp
          have any : (pl pm ++ (pl pa ++ ((14, 0) :: ext))).any (fun x => x.1 == 14) = true := by simp
          rw [eq1] at p'
          have ff := f1.tr f' (Nat.le_refl z)
          refine LH_none hP p' hmu had (fun h93 _ v2 f2 p2' c2 _ => ?_) (fun n93 _ v2 f2 h9 => ?_) (fun z0 => absurd (any.symm.trans z0) (by decide)) (fun _ => by rw [eq2, cl]; simp)
          · rw [eq2, cl] at p2' c2
            dsimp only at p2' c2
            have hp2l := cc_p h93 (by decide)
            have hbb := p2'.2.2.2.1
            have hwc : wc ((14, 0) :: (ext ++ bs)) = wc (ext ++ bs) + 1 := rfl
            rw [hwc, List.length_cons] at hbb
            have cdd : cdR (v2 67) z c := by
              rw [← hd]
              exact cdR.app (g'.of (fun i _ hi => f2.2.2 i hi)) c2
            have clen : z + c.length = z + dd.length + (pl pm ++ pl pa).length := by
              rw [← hd, List.length_append]
              omega
            rw [p2'.2.1.2.2, p2'.2.1.1, p2'.1.1.1, List.length_cons, nI_pred, nI_pred, nI_1]
            refine hO (p2 + 1) c _ ?_ ((((ff.tr f2 (by omega)).u62 (by omega) _).u62 (by omega) _).u62 (by omega) _) ⟨p2'.1.u ?_ ?_ ?_ hp2l, ⟨?_, ?_, ?_⟩, ?_, ⟨?_, ?_, by omega⟩, hpre.2.2.2.2⟩ (cdd.of (fun i _ _ => ?_))
            · rw [he]
              show (if _ then _ else _) = _
              rw [if_pos h93]
            · rw [am_up_ne _ _ _ (by decide), am_up_ne _ _ _ (by decide), am_up_ne _ _ _ (by decide)]
            · rw [am_up_eq, if_pos ⟨rfl, rfl⟩]
            · rw [am_up_eq, if_neg (by decide), am_up_eq, if_neg (by decide), am_up_eq, if_neg (by decide)]
            · rw [am_up_eq, if_neg (by decide), am_up_eq, if_pos ⟨rfl, rfl⟩]
            · rw [am_up_eq, if_neg (by decide), am_up_eq, if_neg (by decide), am_up_eq, if_neg (by decide), p2'.2.1.2.1, clen]
            · rw [am_up_eq, if_neg (by decide), am_up_eq, if_neg (by decide), am_up_eq, if_pos ⟨rfl, rfl⟩]
            · rw [am_up_ne _ _ _ (show (68 : Nat) ≠ 62 by decide), am_up_ne _ _ _ (show (68 : Nat) ≠ 62 by decide), am_up_ne _ _ _ (show (68 : Nat) ≠ 62 by decide)]
              exact p2'.2.2.1.2
            · omega
            · omega
            · rw [am_up_ne _ _ _ (by decide), am_up_ne _ _ _ (by decide), am_up_ne _ _ _ (by decide)]
          · refine hE (1, p2) v2 ?_ (ff.tr f2 (by omega)) h9
            rw [he]
            show (if _ then _ else _) = _
            rw [if_neg n93]
      ((repeat' first | refine hP2 _ ?_ | fail); try dsimp only)
      refine ⟨fun _ => ?_, fun c => absurd c (by decide)⟩
      exact (inner Qf q1 q0).2 P2 hP2
theorem rs_all (hP : ∀ c, am_step K I (am_run K I am_m (d + 5)) cd_X12_readsSum 0 0 Q P c → P c) : ∀ F, FAC K I d w Q P T n bs F ∧ TRM K I d w Q P T n bs F ∧ TTL w Q P T n bs F ∧ SUM K I d w Q P T n bs F ∧ STL w Q P T n bs F := by
  intro F
  induction F with
  | zero =>
    refine ⟨fun p oo z ext v hs => absurd hs (by simp [lpr]), fun p oo z ext v hs => absurd hs (by simp [lpr]), fun p oo z ext pm v hs => absurd hs (by simp [lpr]), fun p oo z ext v hs => absurd hs (by simp [lpr]), fun p oo z ext pm pa v hs => absurd hs (by simp [lpr])⟩
  | succ F ih =>
    obtain ⟨h0, h1, h2, h3, h4⟩ := ih
    exact ⟨fac_s hP h3, trm_s h0 h2, ttl_s hP h0 h2, sum_s h1 h4, stl_s hP h1 h4⟩
end M94b
set_option maxRecDepth 100000 in
set_option maxHeartbeats 4000000 in
theorem m_readsSum {K : am_K} {I : am_I} {d : Nat} {v : am_V} {w : am_X} {Q : Option Value → am_H → Prop} {T : Nat → Int32} {n F p oo z : Nat} {bs : List (Nat × Nat)} (hs : ∃ r, lpr T n F 3 p oo = some r) (hno : nosu bs) (hpre : rs_pre v T n p oo z bs) (hE : ∀ e v', lpr T n F 3 p oo = some (.error e) → rsf v v' z → v' 62 9 = flt e → Q (some (.int 0)) (am_sh, v', w)) (hO : ∀ p1 c v', lpr T n F 3 p oo = some (.ok (p1, c)) → rsf v v' z → rs_pre v' T n p1 oo (z + c.length) bs → cdR (v' 67) z c → Q (some (.int 1)) (am_sh, v', w)) : am_run K I am_m (d + 6) 165 [.ref 62] (am_sh, v, w) 0 0 Q := by
  refine en_X12_readsSum rfl ?_
  intro P hP
  ((repeat' first | refine hP _ ?_ | fail); try dsimp only)
  rw [hpre.2.1.2.2]
  refine (rs_all (bs := bs) (Q := Q) (T := T) (n := n) hP F).2.2.2.1 p oo z [] v hs hno hpre hE (fun p1 c dd pm pa v' he hd hpm hpa hmu had f' p' g' => ?_) _ (fun v' hL => ?_) (fun v' hQ => ?_)
  · have cl := cl_t (ws := bs) hpm hpa hno
    have eq1 : pl pm ++ (pl pa ++ ([] ++ bs)) = (pl pm ++ pl pa) ++ bs := by simp
    have eq2 : (pl pm ++ pl pa) ++ bs = pl pm ++ (pl pa ++ bs) := by simp
    have any : (pl pm ++ pl pa).any (fun x => x.1 == 14) = false := by
      rw [List.any_append]
      have a1 : (pl pm).any (fun x => x.1 == 14) = false := by
        cases pm with
        | none => rfl
        | some k =>
          have := hpm k rfl
          show ((k == 14) || false) = false
          simp
          omega
      have a2 : (pl pa).any (fun x => x.1 == 14) = false := by
        cases pa with
        | none => rfl
        | some k =>
          have := hpa k rfl
          show ((k == 14) || false) = false
          simp
          omega
      rw [a1, a2]
      rfl
    rw [eq1] at p'
    refine LH_none hP p' hmu had (fun _ z0 => absurd (any.symm.trans z0) (by decide)) (fun _ z0 => absurd (any.symm.trans z0) (by decide)) (fun _ v2 f2 p2 c2 => ?_) (fun z0 => absurd (any.symm.trans z0) (by decide))
    rw [eq2, cl] at p2 c2
    dsimp only at p2 c2
    refine hO p1 c v2 he (f'.tr f2 (by omega)) ?_ ?_
    · rw [← hd, List.length_append, ← Nat.add_assoc]
      exact p2
    · rw [← hd]
      exact cdR.app (g'.of (fun i _ hi => f2.2.2 i hi)) c2
  · ((repeat' first | refine hP _ ?_ | fail); try dsimp only)
    refine ⟨fun _ => ?_, fun c => absurd c (by decide)⟩
    exact hL _
  · ((repeat' first | refine hP _ ?_ | fail); try dsimp only)
    refine ⟨fun c => absurd rfl c, fun _ => ?_⟩
    ((repeat' first | refine hP _ ?_ | fail); try dsimp only)
    exact ⟨Or.inl rfl, hQ⟩
