/-! ===== THE LAW's code goes well ===== -/
/-- from place i with stack s it comes to R -/
def evG (F : Nat → Int32) (c : List lc_O) (i : Nat) (s : List Int32) (R : Int32) : Prop := ∀ m, c.length + 1 ≤ m + i → lc_ev F c m i s = some R
section M90
variable {F : Nat → Int32} {c : List lc_O} {i : Nat} {s r : List Int32} {R x y : Int32} {k a : Nat}
theorem lt_of_get {α : Type} {l : List α} {i : Nat} {x : α} (h : l[i]? = some x) : i < l.length := by
  rcases Nat.lt_or_ge i l.length with q | q
  · exact q
  · rw [List.getElem?_eq_none q] at h
    exact absurd h (by simp)
theorem ev_end (h : i = c.length) : evG F c i [x] x := by
  intro m hm
  obtain ⟨m, rfl⟩ : ∃ m', m = m' + 1 := ⟨m - 1, by omega⟩
  unfold lc_ev
  rw [List.getElem?_eq_none (by omega)]
theorem ev_num (h : c[i]? = some (0, a)) (ha : a < 1048576) (hs : s.length < 32) (hg : evG F c (i + 1) (nI a :: s) R) : evG F c i s R := by
  have hi := lt_of_get h
  intro m hm
  obtain ⟨m, rfl⟩ : ∃ m', m = m' + 1 := ⟨m - 1, by omega⟩
  unfold lc_ev
  rw [h]
  dsimp only
  rw [if_neg (by omega), if_pos rfl, if_pos hs]
  exact hg m (by omega)
theorem ev_let (h : c[i]? = some (1, a)) (ha : a < 10) (hs : s.length < 32) (hg : evG F c (i + 1) (F a :: s) R) : evG F c i s R := by
  have hi := lt_of_get h
  intro m hm
  obtain ⟨m, rfl⟩ : ∃ m', m = m' + 1 := ⟨m - 1, by omega⟩
  unfold lc_ev
  rw [h]
  dsimp only
  rw [if_neg (by omega), if_neg (by decide), if_pos rfl, if_pos ⟨hs, ha⟩]
  exact hg m (by omega)
theorem ev_not (h : c[i]? = some (10, 0)) (hg : evG F c (i + 1) ((1 - x) :: r) R) : evG F c i (x :: r) R := by
  have hi := lt_of_get h
  intro m hm
  obtain ⟨m, rfl⟩ : ∃ m', m = m' + 1 := ⟨m - 1, by omega⟩
  unfold lc_ev
  rw [h]
  dsimp only
  rw [if_neg (by omega), if_neg (by decide), if_neg (by decide), if_pos rfl]
  exact hg m (by omega)
theorem ev_op (h : c[i]? = some (k, 0)) (hk : 2 ≤ k ∧ k ≤ 9) (hr : ¬ ((k = 5 ∨ k = 6) ∧ x = 0)) (hg : evG F c (i + 1) (lc_join k y x :: r) R) : evG F c i (x :: y :: r) R := by
  have hi := lt_of_get h
  intro m hm
  obtain ⟨m, rfl⟩ : ∃ m', m = m' + 1 := ⟨m - 1, by omega⟩
  unfold lc_ev
  rw [h]
  dsimp only
  rw [if_neg (by omega), if_neg (by omega), if_neg (by omega), if_neg (by omega), if_neg (by omega), if_pos hk, if_neg hr]
  exact hg m (by omega)
theorem ev_ref (h : c[i]? = some (k, 0)) (hk : 2 ≤ k ∧ k ≤ 9) (hr : (k = 5 ∨ k = 6) ∧ x = 0) : evG F c i (x :: y :: r) 0 := by
  have hi := lt_of_get h
  intro m hm
  obtain ⟨m, rfl⟩ : ∃ m', m = m' + 1 := ⟨m - 1, by omega⟩
  unfold lc_ev
  rw [h]
  dsimp only
  rw [if_neg (by omega), if_neg (by omega), if_neg (by omega), if_neg (by omega), if_neg (by omega), if_pos hk, if_pos hr]
theorem ev_jmp (h : c[i]? = some (k, a)) (hk : k = 11 ∨ k = 12) (hx : x = 0 ∨ x = 1) (ha : 1 ≤ a ∧ i + a ≤ c.length) (ha2 : a < 1048576) (h1 : x = (if k = 12 then 1 else 0) → evG F c (i + a) (x :: r) R) (h0 : ¬ x = (if k = 12 then 1 else 0) → evG F c (i + 1) r R) : evG F c i (x :: r) R := by
  have hi := lt_of_get h
  intro m hm
  obtain ⟨m, rfl⟩ : ∃ m', m = m' + 1 := ⟨m - 1, by omega⟩
  unfold lc_ev
  rw [h]
  dsimp only
  rw [if_neg (by omega), if_neg (by omega), if_neg (by omega), if_neg (by omega), if_pos hk, if_pos ⟨hx, ha⟩]
  by_cases q : x = (if k = 12 then 1 else 0)
  · rw [if_pos q]
    exact h1 q m (by omega)
  · rw [if_neg q]
    exact h0 q m (by omega)
end M90
/-- code that leaves a value: with at most D more on the stack; or something is refused -/
def evS (D : Nat) (t : Prop) (c : List lc_O) : Prop := ∀ F, (∃ x, (t → x = 0 ∨ x = 1) ∧ ∀ pre post s R, s.length + D ≤ 32 → (pre ++ (c ++ post)).length < 1048576 → evG F (pre ++ (c ++ post)) (pre.length + c.length) (x :: s) R → evG F (pre ++ (c ++ post)) pre.length s R) ∨ (∀ pre post s, s.length + D ≤ 32 → (pre ++ (c ++ post)).length < 1048576 → evG F (pre ++ (c ++ post)) pre.length s 0)
/-- code that turns a value into another -/
def evT (D : Nat) (t : Prop) (c : List lc_O) : Prop := ∀ F (x : Int32), (t → x = 0 ∨ x = 1) → (∃ y, (t → y = 0 ∨ y = 1) ∧ ∀ pre post s R, s.length + D ≤ 32 → (pre ++ (c ++ post)).length < 1048576 → evG F (pre ++ (c ++ post)) (pre.length + c.length) (y :: s) R → evG F (pre ++ (c ++ post)) pre.length (x :: s) R) ∨ (∀ pre post s, s.length + D ≤ 32 → (pre ++ (c ++ post)).length < 1048576 → evG F (pre ++ (c ++ post)) pre.length (x :: s) 0)
theorem ap_get {α : Type} (pre : List α) (x : α) (post : List α) : (pre ++ (x :: post))[pre.length]? = some x := by
  rw [List.getElem?_append_right (Nat.le_refl _)]
  simp
section M90b
variable {D D' : Nat} {t : Prop} {c c1 c2 : List lc_O}
theorem evS.mono (h : evS D t c) (hD : D ≤ D') : evS D' t c := fun F => (h F).imp (fun ⟨x, h1, h2⟩ => ⟨x, h1, fun pre post s R hs => h2 pre post s R (by omega)⟩) (fun h2 pre post s hs => h2 pre post s (by omega))
theorem evT.mono (h : evT D t c) (hD : D ≤ D') : evT D' t c := fun F x hx => (h F x hx).imp (fun ⟨y, h1, h2⟩ => ⟨y, h1, fun pre post s R hs => h2 pre post s R (by omega)⟩) (fun h2 pre post s hs => h2 pre post s (by omega))
theorem evT.nil : evT D t [] := fun F x hx => Or.inl ⟨x, hx, fun pre post s R _ _ h => by simpa using h⟩
theorem as1 (pre c1 c2 post : List lc_O) : pre ++ ((c1 ++ c2) ++ post) = pre ++ (c1 ++ (c2 ++ post)) := by simp
theorem as2 (pre c1 c2 post : List lc_O) : pre ++ ((c1 ++ c2) ++ post) = (pre ++ c1) ++ (c2 ++ post) := by simp
theorem evS.app (h1 : evS D t c1) (h2 : evT D t c2) : evS D t (c1 ++ c2) := by
  intro F
  rcases h1 F with ⟨x, hx, g1⟩ | g1
  · rcases h2 F x hx with ⟨y, hy, g2⟩ | g2
    · left
      refine ⟨y, hy, fun pre post s R hs hl h => ?_⟩
      rw [as1] at hl ⊢
      refine g1 pre (c2 ++ post) s R hs hl ?_
      rw [as2] at h
      rw [← as1, as2]
      have := g2 (pre ++ c1) post s R hs (by rw [← as2, as1]; exact hl)
      rw [List.length_append] at this h
      rw [Nat.add_assoc] at this
      exact this h
    · right
      intro pre post s hs hl
      rw [as1] at hl ⊢
      refine g1 pre (c2 ++ post) s 0 hs hl ?_
      rw [← as1, as2]
      have := g2 (pre ++ c1) post s hs (by rw [← as2, as1]; exact hl)
      rw [List.length_append] at this
      exact this
  · right
    intro pre post s hs hl
    rw [as1] at hl ⊢
    exact g1 pre (c2 ++ post) s hs hl
theorem evT.app (h1 : evT D t c1) (h2 : evT D t c2) : evT D t (c1 ++ c2) := by
  intro F x0 hx0
  rcases h1 F x0 hx0 with ⟨x, hx, g1⟩ | g1
  · rcases h2 F x hx with ⟨y, hy, g2⟩ | g2
    · left
      refine ⟨y, hy, fun pre post s R hs hl h => ?_⟩
      rw [as1] at hl ⊢
      refine g1 pre (c2 ++ post) s R hs hl ?_
      rw [as2] at h
      rw [← as1, as2]
      have := g2 (pre ++ c1) post s R hs (by rw [← as2, as1]; exact hl)
      rw [List.length_append] at this h
      rw [Nat.add_assoc] at this
      exact this h
    · right
      intro pre post s hs hl
      rw [as1] at hl ⊢
      refine g1 pre (c2 ++ post) s 0 hs hl ?_
      rw [← as1, as2]
      have := g2 (pre ++ c1) post s hs (by rw [← as2, as1]; exact hl)
      rw [List.length_append] at this
      exact this
  · right
    intro pre post s hs hl
    rw [as1] at hl ⊢
    exact g1 pre (c2 ++ post) s hs hl
/-- a value and a sign behind another -/
theorem evT.op {k : Nat} (h1 : evS D False c) (hk : 2 ≤ k ∧ k ≤ 9) {t' : Prop} (ht : t' → 7 ≤ k) : ∀ F (x : Int32), (∃ y, (t' → y = 0 ∨ y = 1) ∧ ∀ pre post s R, s.length + (D + 1) ≤ 32 → (pre ++ ((c ++ [(k, 0)]) ++ post)).length < 1048576 → evG F (pre ++ ((c ++ [(k, 0)]) ++ post)) (pre.length + (c ++ [(k, 0)]).length) (y :: s) R → evG F (pre ++ ((c ++ [(k, 0)]) ++ post)) pre.length (x :: s) R) ∨ (∀ pre post s, s.length + (D + 1) ≤ 32 → (pre ++ ((c ++ [(k, 0)]) ++ post)).length < 1048576 → evG F (pre ++ ((c ++ [(k, 0)]) ++ post)) pre.length (x :: s) 0) := by
  intro F x
  have get : ∀ pre post : List lc_O, (pre ++ (c ++ ((k, 0) :: post)))[pre.length + c.length]? = some (k, 0) := fun pre post => by
    rw [← List.append_assoc, ← List.length_append]
    exact ap_get _ _ _
  rcases h1 F with ⟨y, -, g1⟩ | g1
  · by_cases hr : (k = 5 ∨ k = 6) ∧ y = 0
    · right
      intro pre post s hs hl
      rw [as1] at hl ⊢
      refine g1 pre ([(k, 0)] ++ post) (x :: s) 0 (by simp; omega) hl ?_
      exact ev_ref (get pre post) hk hr
    · left
      refine ⟨lc_join k x y, fun q => ?_, fun pre post s R hs hl h => ?_⟩
      · have h7 := ht q
        rcases (show k = 7 ∨ k = 8 ∨ k = 9 by omega) with rfl | rfl | rfl
        all_goals
          show (if _ then _ else _ : Int32) = 0 ∨ (if _ then _ else _ : Int32) = 1
          split
          · exact Or.inr rfl
          · exact Or.inl rfl
      · rw [as1] at hl h ⊢
        refine g1 pre ([(k, 0)] ++ post) (x :: s) R (by simp; omega) hl ?_
        refine ev_op (get pre post) hk hr ?_
        rw [List.length_append] at h
        rw [Nat.add_assoc]
        exact h
  · right
    intro pre post s hs hl
    rw [as1] at hl ⊢
    exact g1 pre ([(k, 0)] ++ post) (x :: s) (by simp; omega) hl
/-- a test behind & or | -/
theorem evT.jmp {k : Nat} (hk : k = 11 ∨ k = 12) (h1 : evS D True c) : evT D True ((k, c.length + 1) :: c) := by
  intro F x hx
  have hx := hx trivial
  have get : ∀ pre post : List lc_O, (pre ++ ((k, c.length + 1) :: (c ++ post)))[pre.length]? = some (k, c.length + 1) := fun pre post => ap_get _ _ _
  have e : ∀ pre post : List lc_O, pre ++ (((k, c.length + 1) :: c) ++ post) = pre ++ ((k, c.length + 1) :: (c ++ post)) := fun pre post => rfl
  have e2 : ∀ pre post : List lc_O, pre ++ ((k, c.length + 1) :: (c ++ post)) = (pre ++ [(k, c.length + 1)]) ++ (c ++ post) := fun pre post => by simp
  have ln : ∀ pre post : List lc_O, (pre ++ ((k, c.length + 1) :: (c ++ post))).length = pre.length + (c.length + post.length + 1) := fun pre post => by simp
  by_cases q : x = (if k = 12 then 1 else 0)
  · left
    refine ⟨x, fun _ => hx, fun pre post s R hs hl h => ?_⟩
    rw [e] at hl h ⊢
    rw [ln] at hl
    refine ev_jmp (get pre post) hk hx ⟨by omega, by rw [ln]; omega⟩ (by omega) (fun _ => ?_) (fun z => absurd q z)
    exact h
  · rcases h1 F with ⟨y, hy, g1⟩ | g1
    · left
      refine ⟨y, hy, fun pre post s R hs hl h => ?_⟩
      rw [e] at hl h ⊢
      have hl' := hl
      rw [ln] at hl'
      refine ev_jmp (get pre post) hk hx ⟨by omega, by rw [ln]; omega⟩ (by omega) (fun z => absurd z q) (fun _ => ?_)
      rw [e2] at hl h ⊢
      have := g1 (pre ++ [(k, c.length + 1)]) post s R hs hl
      rw [List.length_append] at this
      refine this ?_
      rw [List.length_cons] at h
      rw [show pre.length + [(k, c.length + 1)].length + c.length = pre.length + (c.length + 1) by simp; omega]
      exact h
    · right
      intro pre post s hs hl
      rw [e] at hl ⊢
      have hl' := hl
      rw [ln] at hl'
      refine ev_jmp (get pre post) hk hx ⟨by omega, by rw [ln]; omega⟩ (by omega) (fun z => absurd z q) (fun _ => ?_)
      rw [e2] at hl ⊢
      have := g1 (pre ++ [(k, c.length + 1)]) post s hs hl
      rw [List.length_append] at this
      exact this
theorem evS.not (h1 : evS D True c) : evS D True (c ++ [(10, 0)]) := by
  intro F
  have get : ∀ pre post : List lc_O, (pre ++ (c ++ ((10, 0) :: post)))[pre.length + c.length]? = some (10, 0) := fun pre post => by
    rw [← List.append_assoc, ← List.length_append]
    exact ap_get _ _ _
  rcases h1 F with ⟨x, hx, g1⟩ | g1
  · left
    refine ⟨1 - x, fun _ => ?_, fun pre post s R hs hl h => ?_⟩
    · rcases hx trivial with rfl | rfl
      · exact Or.inr rfl
      · exact Or.inl rfl
    · rw [as1] at hl h ⊢
      refine g1 pre ([(10, 0)] ++ post) s R hs hl ?_
      refine ev_not (get pre post) ?_
      rw [List.length_append] at h
      rw [Nat.add_assoc]
      exact h
  · right
    intro pre post s hs hl
    rw [as1] at hl ⊢
    exact g1 pre ([(10, 0)] ++ post) s hs hl
end M90b
theorem lt_i {c : Int32} (h : onl ltL c = true) : ∃ j : Nat, j < 10 ∧ am_sfind c 0 ltL = nI j ∧ ltI c = j := by
  rw [onl_iff] at h
  simp [ltL] at h
  rcases h with rfl | rfl | rfl | rfl | rfl | rfl | rfl | rfl | rfl | rfl
  · exact ⟨0, by decide⟩
  · exact ⟨1, by decide⟩
  · exact ⟨2, by decide⟩
  · exact ⟨3, by decide⟩
  · exact ⟨4, by decide⟩
  · exact ⟨5, by decide⟩
  · exact ⟨6, by decide⟩
  · exact ⟨7, by decide⟩
  · exact ⟨8, by decide⟩
  · exact ⟨9, by decide⟩
theorem mu_k {c : Int32} (h : onl muL c = true) : 4 ≤ sgK c ∧ sgK c ≤ 6 ∧ c = nI (lc_sg (sgK c)) := by
  rw [onl_iff] at h
  simp [muL] at h
  rcases h with rfl | rfl | rfl <;> decide
theorem ad_k {c : Int32} (h : onl adL c = true) : 2 ≤ sgK c ∧ sgK c ≤ 3 ∧ c = nI (lc_sg (sgK c)) := by
  rw [onl_iff] at h
  simp [adL] at h
  rcases h with rfl | rfl <;> decide
theorem cm_k {c : Int32} (h : onl cmL c = true) : 7 ≤ sgK c ∧ sgK c ≤ 9 ∧ c = nI (lc_sg (sgK c)) := by
  rw [onl_iff] at h
  simp [cmL] at h
  rcases h with rfl | rfl | rfl <;> decide
/-- what is read goes well -/
theorem lp_ev {T : Nat → Int32} {n : Nat} : ∀ (f m p o p1 : Nat) (c : List lc_O), p ≤ n → o ≤ 6 → lpr T n f m p o = some (.ok (p1, c)) → (m = 0 → evS (1 + 2 * (6 - o)) False c) ∧ (m = 1 → evS (2 + 2 * (6 - o)) False c) ∧ (m = 2 → evT (2 + 2 * (6 - o)) False c) ∧ (m = 3 → evS (3 + 2 * (6 - o)) False c) ∧ (m = 4 → evT (3 + 2 * (6 - o)) False c) ∧ (m = 5 → evS (4 + 2 * (6 - o)) True c) ∧ (m = 6 → evS (4 + 2 * (6 - o)) True c) ∧ (m = 7 → evT (4 + 2 * (6 - o)) True c) ∧ (m = 8 → evS (4 + 2 * (6 - o)) True c) ∧ (m = 9 → evT (4 + 2 * (6 - o)) True c) := by
  intro f
  induction f with
  | zero =>
    intro m p o p1 c _ _ h
    exact absurd h (by simp [lpr])
  | succ f ih =>
    intro m p o p1 c hp ho h
    have e : ∀ {q1 : Nat} {d : List lc_O}, some (Except.ok (q1, d)) = (some (.ok (p1, c)) : lp_R) → d = c := by
      intro q1 d h
      have : q1 = p1 ∧ d = c := by simpa using h
      exact this.2
    refine ⟨fun hm => ?_, fun hm => ?_, fun hm => ?_, fun hm => ?_, fun hm => ?_, fun hm => ?_, fun hm => ?_, fun hm => ?_, fun hm => ?_, fun hm => ?_⟩
    all_goals subst hm
    · rw [lpr_0] at h
      split at h
      · rename_i hc
        have hpl := cc_p hc (by decide)
        split at h
        · exact absurd h (by simp)
        · obtain ⟨q1, c1, h1, h⟩ := lpb_ok h
          split at h
          · rw [← e h]
            exact ((ih 3 (p + 1) (o + 1) q1 c1 hpl (by omega) h1).2.2.2.1 rfl).mono (by omega)
          · exact absurd h (by simp)
      · split at h
        · rename_i hc
          rw [← e h]
          obtain ⟨j, hj, -, e2⟩ := lt_i hc
          intro F
          left
          refine ⟨F (ltI (cc T n p)), fun q => q.elim, fun pre post s R hs hl hg => ?_⟩
          refine ev_let (a := ltI (cc T n p)) (by show (pre ++ ((1, ltI (cc T n p)) :: post))[pre.length]? = _; exact ap_get _ _ _) (by omega) (by omega) ?_
          exact hg
        · split at h
          · exact absurd h (by simp)
          · rename_i q1 x hnum
            rw [← e h]
            have := numF_ok hp hnum
            intro F
            left
            refine ⟨nI x, fun q => q.elim, fun pre post s R hs hl hg => ?_⟩
            refine ev_num (a := x) (by show (pre ++ ((0, x) :: post))[pre.length]? = _; exact ap_get _ _ _) (by omega) (by omega) ?_
            exact hg
    · rw [lpr_1] at h
      obtain ⟨q1, c1, h1, h⟩ := lpb_ok h
      obtain ⟨q2, c2, h2, h⟩ := lpb_ok h
      rw [← e h]
      have l1 := lp_len f 0 p o q1 c1 hp h1
      exact (((ih 0 p o q1 c1 hp ho h1).1 rfl).mono (by omega)).app ((ih 2 q1 o q2 c2 l1.1 ho h2).2.2.1 rfl)
    · rw [lpr_2] at h
      split at h
      · rename_i hc
        have hpl := onl_lt mu_m1 hc
        obtain ⟨q1, c1, h1, h⟩ := lpb_ok h
        obtain ⟨q2, c2, h2, h⟩ := lpb_ok h
        rw [← e h]
        have l1 := lp_len f 0 (p + 1) o q1 c1 hpl h1
        have k := mu_k hc
        rw [show c1 ++ (sgK (cc T n p), 0) :: c2 = (c1 ++ [(sgK (cc T n p), 0)]) ++ c2 by simp]
        refine evT.app (fun F x _ => ?_) ((ih 2 q1 o q2 c2 l1.1 ho h2).2.2.1 rfl)
        have := evT.op ((ih 0 (p + 1) o q1 c1 hpl ho h1).1 rfl) (k := sgK (cc T n p)) (by omega) (t' := False) (fun q => q.elim) F x
        rw [show 2 + 2 * (6 - o) = 1 + 2 * (6 - o) + 1 by omega]
        exact this
      · rw [← e h]
        exact evT.nil
    · rw [lpr_3] at h
      obtain ⟨q1, c1, h1, h⟩ := lpb_ok h
      obtain ⟨q2, c2, h2, h⟩ := lpb_ok h
      rw [← e h]
      have l1 := lp_len f 1 p o q1 c1 hp h1
      exact (((ih 1 p o q1 c1 hp ho h1).2.1 rfl).mono (by omega)).app ((ih 4 q1 o q2 c2 l1.1 ho h2).2.2.2.2.1 rfl)
    · rw [lpr_4] at h
      split at h
      · rename_i hc
        have hpl := onl_lt ad_m1 hc
        obtain ⟨q1, c1, h1, h⟩ := lpb_ok h
        obtain ⟨q2, c2, h2, h⟩ := lpb_ok h
        rw [← e h]
        have l1 := lp_len f 1 (p + 1) o q1 c1 hpl h1
        have k := ad_k hc
        rw [show c1 ++ (sgK (cc T n p), 0) :: c2 = (c1 ++ [(sgK (cc T n p), 0)]) ++ c2 by simp]
        refine evT.app (fun F x _ => ?_) ((ih 4 q1 o q2 c2 l1.1 ho h2).2.2.2.2.1 rfl)
        have := evT.op ((ih 1 (p + 1) o q1 c1 hpl ho h1).2.1 rfl) (k := sgK (cc T n p)) (by omega) (t' := False) (fun q => q.elim) F x
        rw [show 3 + 2 * (6 - o) = 2 + 2 * (6 - o) + 1 by omega]
        exact this
      · rw [← e h]
        exact evT.nil
    · rw [lpr_5] at h
      split at h
      · rename_i hc
        have hpl := cc_p hc (by decide)
        split at h
        · exact absurd h (by simp)
        · obtain ⟨q1, c1, h1, h⟩ := lpb_ok h
          split at h
          · rw [← e h]
            exact ((ih 8 (p + 1) (o + 1) q1 c1 hpl (by omega) h1).2.2.2.2.2.2.2.2.1 rfl).mono (by omega)
          · exact absurd h (by simp)
      · split at h
        · rename_i hc
          have hpl := cc_p hc (by decide)
          split at h
          · exact absurd h (by simp)
          · obtain ⟨q1, c1, h1, h⟩ := lpb_ok h
            rw [← e h]
            exact (((ih 5 (p + 1) (o + 1) q1 c1 hpl (by omega) h1).2.2.2.2.2.1 rfl).mono (by omega)).not
        · obtain ⟨q1, c1, h1, h⟩ := lpb_ok h
          have l1 := lp_len f 3 p o q1 c1 hp h1
          split at h
          · rename_i hc
            have hpl := onl_lt cm_m1 hc
            obtain ⟨q2, c2, h2, h⟩ := lpb_ok h
            rw [← e h]
            have k := cm_k hc
            have s1 := (ih 3 p o q1 c1 hp ho h1).2.2.2.1 rfl
            have s2 := evT.op ((ih 3 (q1 + 1) o q2 c2 hpl ho h2).2.2.2.1 rfl) (k := sgK (cc T n q1)) (by omega) (t' := True) (fun _ => by omega)
            rw [show 3 + 2 * (6 - o) + 1 = 4 + 2 * (6 - o) by omega] at s2
            intro F
            rcases s1 F with ⟨x, -, g1⟩ | g1
            · rcases s2 F x with ⟨y, hy, g2⟩ | g2
              · left
                refine ⟨y, hy, fun pre post s R hs hl hg => ?_⟩
                rw [as1] at hl ⊢
                refine g1 pre _ s R (by omega) hl ?_
                rw [as2] at hg
                rw [← as1, as2]
                have := g2 (pre ++ c1) post s R hs (by rw [← as2, as1]; exact hl)
                rw [List.length_append] at this hg
                rw [Nat.add_assoc] at this
                exact this hg
              · right
                intro pre post s hs hl
                rw [as1] at hl ⊢
                refine g1 pre _ s 0 (by omega) hl ?_
                rw [← as1, as2]
                have := g2 (pre ++ c1) post s hs (by rw [← as2, as1]; exact hl)
                rw [List.length_append] at this
                exact this
            · right
              intro pre post s hs hl
              rw [as1] at hl ⊢
              exact g1 pre _ s (by omega) hl
          · exact absurd h (by simp)
    · rw [lpr_6] at h
      obtain ⟨q1, c1, h1, h⟩ := lpb_ok h
      obtain ⟨q2, c2, h2, h⟩ := lpb_ok h
      rw [← e h]
      have l1 := lp_len f 5 p o q1 c1 hp h1
      exact ((ih 5 p o q1 c1 hp ho h1).2.2.2.2.2.1 rfl).app ((ih 7 q1 o q2 c2 l1.1 ho h2).2.2.2.2.2.2.2.1 rfl)
    · rw [lpr_7] at h
      split at h
      · rename_i hc
        have hpl := cc_p hc (by decide)
        obtain ⟨q1, c1, h1, h⟩ := lpb_ok h
        obtain ⟨q2, c2, h2, h⟩ := lpb_ok h
        rw [← e h]
        have l1 := lp_len f 5 (p + 1) o q1 c1 hpl h1
        exact (evT.jmp (Or.inl rfl) ((ih 5 (p + 1) o q1 c1 hpl ho h1).2.2.2.2.2.1 rfl)).app ((ih 7 q1 o q2 c2 l1.1 ho h2).2.2.2.2.2.2.2.1 rfl)
      · rw [← e h]
        exact evT.nil
    · rw [lpr_8] at h
      obtain ⟨q1, c1, h1, h⟩ := lpb_ok h
      obtain ⟨q2, c2, h2, h⟩ := lpb_ok h
      rw [← e h]
      have l1 := lp_len f 6 p o q1 c1 hp h1
      exact ((ih 6 p o q1 c1 hp ho h1).2.2.2.2.2.2.1 rfl).app ((ih 9 q1 o q2 c2 l1.1 ho h2).2.2.2.2.2.2.2.2.2 rfl)
    · rw [lpr_9] at h
      split at h
      · rename_i hc
        have hpl := cc_p hc (by decide)
        obtain ⟨q1, c1, h1, h⟩ := lpb_ok h
        obtain ⟨q2, c2, h2, h⟩ := lpb_ok h
        rw [← e h]
        have l1 := lp_len f 6 (p + 1) o q1 c1 hpl h1
        exact (evT.jmp (Or.inr rfl) ((ih 6 (p + 1) o q1 c1 hpl ho h1).2.2.2.2.2.2.1 rfl)).app ((ih 9 q1 o q2 c2 l1.1 ho h2).2.2.2.2.2.2.2.2.2 rfl)
      · rw [← e h]
        exact evT.nil
theorem okA_of {D : Nat} {c : List lc_O} (h : evS D False c) (hD : D ≤ 32) (hl : c.length < 1000000) : lc_okA c := by
  intro F
  rcases h F with ⟨x, -, g⟩ | g
  · refine ⟨x, ?_⟩
    have := g [] [] [] x (by simpa using hD) (by simp; omega) (ev_end (by simp))
    simp at this
    exact this (c.length + 1) (by omega)
  · refine ⟨0, ?_⟩
    have := g [] [] [] (by simpa using hD) (by simp; omega)
    simp at this
    exact this (c.length + 1) (by omega)
theorem okT_of {D : Nat} {c : List lc_O} (h : evS D True c) (hD : D ≤ 32) (hl : c.length < 1000000) : lc_okT c := by
  intro F
  rcases h F with ⟨x, hx, g⟩ | g
  · have := g [] [] [] x (by simpa using hD) (by simp; omega) (ev_end (by simp))
    simp at this
    have t := this (c.length + 1) (by omega)
    rcases hx trivial with rfl | rfl
    · exact Or.inl t
    · exact Or.inr t
  · left
    have := g [] [] [] (by simpa using hD) (by simp; omega)
    simp at this
    exact this (c.length + 1) (by omega)
