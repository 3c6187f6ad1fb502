/-! ===== orders: a line, what it does; the class ===== -/
abbrev od_O : Type := Int32 × Int32 × Nat
def whL : List Int32 := [48, 49, 42]
def wtL : List Int32 := [102, 98, 104, 111, 97]
def ordL (T : Nat → Int32) (n k p : Nat) : Except (Nat × Nat) (Nat × od_O) := if onl whL (cc T n p) = false then .error (1, p) else if 20 ≤ k then .error (4, p) else if onl wtL (cc T n (p + 1)) = false then .error (1, p + 1) else if cc T n (p + 1) = 104 ∨ cc T n (p + 1) = 111 then .ok (p + 2, (cc T n p, cc T n (p + 1), 0)) else match numF T n 3 (p + 2) with
  | .error e => .error e
  | .ok (p1, x) => if cc T n (p + 1) = 98 ∧ 90 < x then .error (3, p + 2) else .ok (p1, (cc T n p, cc T n (p + 1), x))
def ordS (T : Nat → Int32) (n k p : Nat) (s : List od_O) : Except (Nat × Nat) (Nat × List od_O) := match ordL T n k p with
  | .error e => .error e
  | .ok (p1, o) => .ok (p1, s ++ [o])
def od_ok (o : od_O) : Prop := onl whL o.1 = true ∧ onl wtL o.2.1 = true ∧ o.2.2 < 1000 ∧ (o.2.1 = 98 → o.2.2 ≤ 90)
def od_at (v : am_V) (s : List od_O) : Prop := ∀ i o, s[i]? = some o → od_ok o ∧ v 19 i = o.1 ∧ v 20 i = o.2.1 ∧ ((o.2.1 = 104 ∨ o.2.1 = 111) ∨ v 21 i = nI o.2.2)
def od_fr (v0 v : am_V) : Prop := ∀ c, c ≠ 18 → c ≠ 19 → c ≠ 20 → c ≠ 21 → v c = v0 c
def od_S (v0 : am_V) (T : Nat → Int32) (n k p : Nat) (s : List od_O) (v : am_V) : Prop := rd v 18 T n p ∧ od_fr v0 v ∧ (s.length = k ∧ k ≤ 20) ∧ od_at v s
theorem od_push {v v' : am_V} {s : List od_O} {o : od_O} {k : Nat} (h : od_at v s) (hk : s.length = k) (ho : od_ok o) (hs : ∀ i, i < k → v' 19 i = v 19 i ∧ v' 20 i = v 20 i ∧ v' 21 i = v 21 i) (h1 : v' 19 k = o.1) (h2 : v' 20 k = o.2.1) (h3 : (o.2.1 = 104 ∨ o.2.1 = 111) ∨ v' 21 k = nI o.2.2) : od_at v' (s ++ [o]) := by
  intro i o' e
  rcases Nat.lt_or_ge i k with q | q
  · rw [List.getElem?_append_left (by omega)] at e
    obtain ⟨a, b, c, d⟩ := h i o' e
    rw [(hs i q).1, (hs i q).2.1, (hs i q).2.2]
    exact ⟨a, b, c, d⟩
  · rw [List.getElem?_append_right (by omega)] at e
    have hi : i - s.length = 0 := by
      rcases Nat.eq_zero_or_pos (i - s.length) with z | z
      · exact z
      · rw [List.getElem?_eq_none (by simp; omega)] at e
        exact absurd e (by simp)
    rw [hi] at e
    have e : o = o' := by simpa using e
    subst e
    have : i = k := by omega
    subst this
    exact ⟨ho, h1, h2, h3⟩
theorem rd.o {v v' : am_V} {R : Nat} {T : Nat → Int32} {n p : Nat} (h : rd v R T n p) (hR : v' R = v R) (h1 : v' 1 = v 1) (h2 : v' 2 = v 2) : rd v' R T n p := by
  unfold rd
  rw [hR, h1, h2]
  exact h
theorem numF_ok {T : Nat → Int32} {n M p p1 x : Nat} (hp : p ≤ n) (h : numF T n M p = .ok (p1, x)) : p < p1 ∧ p1 ≤ n ∧ x < 10 ^ M := by
  unfold numF at h
  by_cases h0 : nd T n M p = 0
  · rw [if_pos h0] at h
    exact absurd h (by simp)
  · rw [if_neg h0] at h
    by_cases h1 : onl dgL (cc T n (p + nd T n M p)) = true
    · rw [if_pos h1] at h
      exact absurd h (by simp)
    · rw [if_neg h1] at h
      have e : p + nd T n M p = p1 ∧ nv T n M p 0 = x := by simpa using h
      have a := nd_le T n M p hp
      have b := nv_lt T n M p 0
      rw [Nat.zero_add, Nat.one_mul, e.2] at b
      exact ⟨by omega, by omega, b⟩
theorem numF_er {T : Nat → Int32} {n M p : Nat} {e : Nat × Nat} (hp : p ≤ n) (h : numF T n M p = .error e) : 1 ≤ e.1 ∧ e.1 ≤ 6 ∧ e.2 ≤ n := by
  have a := nd_le T n M p hp
  unfold numF at h
  by_cases h0 : nd T n M p = 0
  · rw [if_pos h0] at h
    have e : (1, p) = e := by simpa using h
    subst e
    exact ⟨by show 1 ≤ 1; decide, by show 1 ≤ 6; decide, hp⟩
  · rw [if_neg h0] at h
    by_cases h1 : onl dgL (cc T n (p + nd T n M p)) = true
    · rw [if_pos h1] at h
      have e : (2, p + nd T n M p) = e := by simpa using h
      subst e
      exact ⟨by show 1 ≤ 2; decide, by show 2 ≤ 6; decide, a⟩
    · rw [if_neg h1] at h
      exact absurd h (by simp)
theorem wh_m1 : onl whL (-1) = false := by decide
theorem wt_m1 : onl wtL (-1) = false := by decide
theorem wt_5 {c : Int32} (h : onl wtL c = true) : c = 102 ∨ c = 98 ∨ c = 104 ∨ c = 111 ∨ c = 97 := by
  rw [onl_iff] at h
  simpa [wtL] using h
theorem wh_3 {c : Int32} (h : onl whL c = true) : c = 48 ∨ c = 49 ∨ c = 42 := by
  rw [onl_iff] at h
  simpa [whL] using h
section M75
variable {K : am_K} {I : am_I} {d : Nat} {v v0 : am_V} {w : am_X} {Q : Option Value → am_H → Prop} {T : Nat → Int32} {n k p : Nat} {s : List od_O}
set_option maxRecDepth 100000 in
set_option maxHeartbeats 4000000 in
theorem m_ordLine (hk1 : I 2740 = some (fun c => am_sfind c 0 whL)) (hk2 : I 2753 = some (fun c => am_sfind c 0 wtL)) (hk3 : I 2698 = some (fun c => am_sfind c 0 dgL)) (hS : od_S v0 T n k p s v) (hE : ∀ e u', ordS T n k p s = .error e → od_fr v0 u' → u' 18 2 = flt e → Q (some (.int 0)) (am_sh, u', w)) (hO : ∀ p1 s1 u', ordS T n k p s = .ok (p1, s1) → od_S v0 T n (k + 1) p1 s1 u' → Q (some (.int 1)) (am_sh, u', w)) : am_run K I am_m (d + 4) 72 [.ref 18, .int (nI k)] (am_sh, v, w) 0 0 Q := by
  obtain ⟨hr, hf, ⟨hsk, hk20⟩, hat⟩ := hS
  have hR : rdr 18 := by unfold rdr; decide
  have hn := hr.2.2.1.1
  have hpn := hr.2.2.1.2
  unfold ordS ordL at hE hO
  refine en_X6_readLine rfl ?_
  intro P hP
  ((repeat' first | refine hP _ ?_ | fail); try dsimp only)
  refine m_isOn hR hr hk1 (by decide) wh_m1 ?_
  ((repeat' first | refine hP _ ?_ | fail); try dsimp only)
  cases ho : onl whL (cc T n p) with
  | false =>
    rw [ho, if_pos rfl] at hE
    refine ⟨fun c => absurd rfl c, fun _ => ?_⟩
    ((repeat' first | refine hP _ ?_ | fail); try dsimp only)
    refine m_cannot hR hr.1.2 ?_
    ((repeat' first | refine hP _ ?_ | fail); try dsimp only)
    exact ⟨Or.inl rfl, hE (1, p) _ rfl (fun c h1 h2 h3 h4 => by rw [am_up_ne _ _ _ h1]; exact hf c h1 h2 h3 h4) (by rw [am_up_eq, if_pos ⟨rfl, rfl⟩])⟩
  | true =>
  rw [ho, if_neg (by decide)] at hE hO
  have hpl := onl_lt wh_m1 ho
  refine ⟨fun _ => ?_, fun c => absurd c (by decide)⟩
  ((repeat' first | refine hP _ ?_ | fail); try dsimp only)
  by_cases hk : 20 ≤ k
  · rw [if_pos hk] at hE
    refine ⟨fun c => absurd c (nI_nlt (a := k) (b := 20) hk (by omega)), fun _ => ?_⟩
    ((repeat' first | refine hP _ ?_ | fail); try dsimp only)
    rw [hr.1.2]
    refine m_fails hR ?_
    ((repeat' first | refine hP _ ?_ | fail); try dsimp only)
    exact ⟨Or.inl rfl, hE (4, p) _ rfl (fun c h1 h2 h3 h4 => by rw [am_up_ne _ _ _ h1]; exact hf c h1 h2 h3 h4) (by rw [am_up_eq, if_pos ⟨rfl, rfl⟩]; rfl)⟩
  rw [if_neg hk] at hE hO
  refine ⟨fun _ => ?_, fun c => absurd (nI_lt (a := k) (b := 20) (by omega) (by omega)) c⟩
  ((repeat' first | refine hP _ ?_ | fail); try dsimp only)
  refine m_takesC hR hr hk1 (by decide) wh_m1 (fun q => absurd (ho.symm.trans q) (by decide)) (fun _ _ => ?_)
  ((repeat' first | refine hP _ ?_ | fail); try dsimp only)
  rw [take_4]
  refine ⟨vp_in_nI (by omega) (by omega), ?_⟩
  dsimp only
  rw [nI_clamp (by omega)]
  have r1 := take_rd hR hr (cc T n p) hpl
  generalize hu1 : am_up (am_up v 18 4 (cc T n p)) 18 3 (nI (p + 1)) = u1 at r1 ⊢
  have f1 : ∀ c, c ≠ 18 → u1 c = v c := fun c hc => by rw [← hu1]; exact (take_fr 18 v _ _).1 c hc
  generalize hu2 : am_up u1 19 k (cc T n p) = u2
  have f2 : ∀ c, c ≠ 19 → u2 c = u1 c := fun c hc => by rw [← hu2, am_up_ne _ _ _ hc]
  have g2 : ∀ i, i ≠ k → u2 19 i = v 19 i := fun i hi => by rw [← hu2, am_up_eq, if_neg (fun q => hi q.2), f1 19 (by decide)]
  have c2 : u2 19 k = cc T n p := by rw [← hu2, am_up_eq, if_pos ⟨rfl, rfl⟩]
  have r2 : rd u2 18 T n (p + 1) := r1.o (f2 18 (by decide)) (f2 1 (by decide)) (f2 2 (by decide))
  have fr2 : od_fr v0 u2 := fun c h1 h2 h3 h4 => by rw [f2 c h2, f1 c h1, hf c h1 h2 h3 h4]
  ((repeat' first | refine hP _ ?_ | fail); try dsimp only)
  refine m_takesC hR r2 hk2 (by decide) wt_m1 (fun q => ?_) (fun ho2 hpl2 => ?_)
  · rw [q, if_pos rfl] at hE
    ((repeat' first | refine hP _ ?_ | fail); try dsimp only)
    refine ⟨fun c => absurd rfl c, fun _ => ?_⟩
    ((repeat' first | refine hP _ ?_ | fail); try dsimp only)
    refine m_cannot hR r2.1.2 ?_
    ((repeat' first | refine hP _ ?_ | fail); try dsimp only)
    exact ⟨Or.inl rfl, hE (1, p + 1) _ rfl (fun c h1 h2 h3 h4 => by rw [am_up_ne _ _ _ h1]; exact fr2 c h1 h2 h3 h4) (by rw [am_up_eq, if_pos ⟨rfl, rfl⟩])⟩
  rw [ho2, if_neg (by decide)] at hE hO
  ((repeat' first | refine hP _ ?_ | fail); try dsimp only)
  refine ⟨fun _ => ?_, fun c => absurd c (by decide)⟩
  ((repeat' first | refine hP _ ?_ | fail); try dsimp only)
  rw [take_4]
  refine ⟨vp_in_nI (by omega) (by omega), ?_⟩
  dsimp only
  rw [nI_clamp (by omega)]
  have r3 := take_rd hR r2 (cc T n (p + 1)) hpl2
  generalize hu3 : am_up (am_up u2 18 4 (cc T n (p + 1))) 18 3 (nI (p + 1 + 1)) = u3 at r3 ⊢
  have f3 : ∀ c, c ≠ 18 → u3 c = u2 c := fun c hc => by rw [← hu3]; exact (take_fr 18 u2 _ _).1 c hc
  generalize hu4 : am_up u3 20 k (cc T n (p + 1)) = u4
  have f4 : ∀ c, c ≠ 20 → u4 c = u3 c := fun c hc => by rw [← hu4, am_up_ne _ _ _ hc]
  have g4 : ∀ i, i ≠ k → u4 20 i = v 20 i := fun i hi => by rw [← hu4, am_up_eq, if_neg (fun q => hi q.2), f3 20 (by decide), f2 20 (by decide), f1 20 (by decide)]
  have c4 : u4 20 k = cc T n (p + 1) := by rw [← hu4, am_up_eq, if_pos ⟨rfl, rfl⟩]
  have r4 : rd u4 18 T n (p + 2) := r3.o (f4 18 (by decide)) (f4 1 (by decide)) (f4 2 (by decide))
  have w4 : ∀ i, u4 19 i = u2 19 i := fun i => by rw [f4 19 (by decide), f3 19 (by decide)]
  have x4 : u4 21 = v 21 := by rw [f4 21 (by decide), f3 21 (by decide), f2 21 (by decide), f1 21 (by decide)]
  have fr4 : od_fr v0 u4 := fun c h1 h2 h3 h4 => by rw [f4 c h3, f3 c h1, fr2 c h1 h2 h3 h4]
  -- without a number
  have ho_ : cc T n (p + 1) = 104 ∨ cc T n (p + 1) = 111 → P (cd_X6_readLine.drop 51, [some (.ref 18), some (.int (nI k)), none], [], (am_sh, u4, w), 0, 0) := by
    intro q
    rw [if_pos q] at hO
    ((repeat' first | refine hP _ ?_ | fail); try dsimp only)
    refine ⟨Or.inr rfl, hO _ _ _ rfl ⟨r4, fr4, ⟨by simp [hsk], by omega⟩, od_push hat hsk ⟨ho, ho2, by show 0 < 1000; decide, fun _ => by show 0 ≤ 90; decide⟩ (fun i hi => ⟨?_, ?_, ?_⟩) ?_ c4 (Or.inl q)⟩⟩
    · rw [w4, g2 i (by omega)]
    · exact g4 i (by omega)
    · rw [x4]
    · rw [w4, c2]
  ((repeat' first | refine hP _ ?_ | fail); try dsimp only)
  refine ⟨vp_in_nI (by omega) (by omega), ?_⟩
  ((repeat' first | refine hP _ ?_ | fail); try dsimp only)
  rw [nI_clamp (by omega), c4]
  refine ⟨fun q => ho_ (Or.inl q), fun q1 => ?_⟩
  ((repeat' first | refine hP _ ?_ | fail); try dsimp only)
  refine ⟨vp_in_nI (by omega) (by omega), ?_⟩
  ((repeat' first | refine hP _ ?_ | fail); try dsimp only)
  rw [nI_clamp (by omega), c4]
  refine ⟨fun q2 => ?_, fun q => ho_ (Or.inr q)⟩
  have hno : ¬ (cc T n (p + 1) = 104 ∨ cc T n (p + 1) = 111) := fun q => q.elim q1 q2
  rw [if_neg hno] at hE hO
  ((repeat' first | refine hP _ ?_ | fail); try dsimp only)
  rw [r4.1.2]
  refine m_readNum hR r4 hk3 (M := 3) (by decide) (fun e u5 he f5 h5 => ?_) (fun p1 x u5 he f5 h3 hp1 h4 => ?_)
  · rw [he] at hE
    ((repeat' first | refine hP _ ?_ | fail); try dsimp only)
    refine ⟨fun c => absurd rfl c, fun _ => ?_⟩
    ((repeat' first | refine hP _ ?_ | fail); try dsimp only)
    exact ⟨Or.inl rfl, hE e _ rfl (fun c h1 h2 h3 h4 => by rw [f5.1 c h1, fr4 c h1 h2 h3 h4]) h5⟩
  · rw [he] at hE hO
    dsimp only at hE hO
    obtain ⟨-, -, hx⟩ := numF_ok (by omega) he
    have r5 := r4.of hR f5 h3 hp1
    ((repeat' first | refine hP _ ?_ | fail); try dsimp only)
    refine ⟨fun _ => ?_, fun c => absurd c (by decide)⟩
    ((repeat' first | refine hP _ ?_ | fail); try dsimp only)
    rw [h4]
    refine ⟨vp_in_nI (by omega) (by omega), ?_⟩
    dsimp only
    rw [nI_clamp (by omega)]
    generalize hu6 : am_up u5 21 k (nI x) = u6
    have f6 : ∀ c, c ≠ 21 → u6 c = u5 c := fun c hc => by rw [← hu6, am_up_ne _ _ _ hc]
    have g6 : ∀ i, i ≠ k → u6 21 i = v 21 i := fun i hi => by rw [← hu6, am_up_eq, if_neg (fun q => hi q.2), f5.1 21 (by decide), x4]
    have c6 : u6 21 k = nI x := by rw [← hu6, am_up_eq, if_pos ⟨rfl, rfl⟩]
    have fr6 : od_fr v0 u6 := fun c h1 h2 h3 h4 => by rw [f6 c h4, f5.1 c h1, fr4 c h1 h2 h3 h4]
    have fin : ¬ (cc T n (p + 1) = 98 ∧ 90 < x) → P (cd_X6_readLine.drop 83, [some (.ref 18), some (.int (nI k)), some (.int (nI (p + 2)))], [], (am_sh, u6, w), 0, 0) := by
      intro q
      rw [if_neg q] at hO
      ((repeat' first | refine hP _ ?_ | fail); try dsimp only)
      refine ⟨Or.inr rfl, hO _ _ _ rfl ⟨r5.o (f6 18 (by decide)) (f6 1 (by decide)) (f6 2 (by decide)), fr6, ⟨by simp [hsk], by omega⟩, od_push hat hsk ⟨ho, ho2, hx, fun z => by
        show x ≤ 90
        rcases Nat.lt_or_ge 90 x with g | g
        · exact absurd ⟨z, g⟩ q
        · exact g⟩ (fun i hi => ⟨?_, ?_, g6 i (by omega)⟩) ?_ ?_ (Or.inr c6)⟩⟩
      · rw [f6 19 (by decide), f5.1 19 (by decide), w4, g2 i (by omega)]
      · rw [f6 20 (by decide), f5.1 20 (by decide), g4 i (by omega)]
      · rw [f6 19 (by decide), f5.1 19 (by decide), w4, c2]
      · rw [f6 20 (by decide), f5.1 20 (by decide), c4]
    ((repeat' first | refine hP _ ?_ | fail); try dsimp only)
    refine ⟨vp_in_nI (by omega) (by omega), ?_⟩
    ((repeat' first | refine hP _ ?_ | fail); try dsimp only)
    rw [nI_clamp (by omega), f6 20 (by decide), f5.1 20 (by decide), c4]
    refine ⟨fun q => fin (fun z => q z.1), fun q => ?_⟩
    ((repeat' first | refine hP _ ?_ | fail); try dsimp only)
    rw [f6 18 (by decide), h4]
    refine ⟨fun z => fin (fun y => absurd ((nI_leI (b := 90) (by omega) (by omega)).mp z) (by omega)), fun z => ?_⟩
    have z : 90 < x := by
      rcases Nat.lt_or_ge 90 x with g | g
      · exact g
      · exact absurd (nI_le (b := 90) g (by omega)) z
    rw [if_pos ⟨q, z⟩] at hE
    ((repeat' first | refine hP _ ?_ | fail); try dsimp only)
    refine m_fails hR ?_
    ((repeat' first | refine hP _ ?_ | fail); try dsimp only)
    exact ⟨Or.inl rfl, hE (3, p + 2) _ rfl (fun c h1 h2 h3 h4 => by rw [am_up_ne _ _ _ h1]; exact fr6 c h1 h2 h3 h4) (by rw [am_up_eq, if_pos ⟨rfl, rfl⟩]; rfl)⟩
end M75
/-! what an order does -/
def ob1 (k : Nat) (c : Int32) (x : Nat) (r : Nat → Int32) : Nat → Int32 := fun j => if c = 102 then (if j = k then f_mx 0 (r k - nI x) else r j) else if c = 98 then (if j = 2 + k then nI x else r j) else if c = 104 then (if j = 6 + k then 1 else r j) else if c = 111 then (if j = 6 + k then 0 else r j) else (if j = 4 + k then f_mx 0 (r (4 + k) - nI x) else r j)
def obA (o : od_O) (r : Nat → Int32) : Nat → Int32 := if o.1 = 49 then r else ob1 0 o.2.1 o.2.2 r
def obO (o : od_O) (r : Nat → Int32) : Nat → Int32 := if o.1 = 48 then obA o r else ob1 1 o.2.1 o.2.2 (obA o r)
def obs : List od_O → (Nat → Int32) → Nat → Int32
  | [], r => r
  | o :: s, r => obs s (obO o r)
theorem obs_app : ∀ (s : List od_O) (o : od_O) (r : Nat → Int32), obs (s ++ [o]) r = obO o (obs s r)
  | [], _, _ => rfl
  | a :: s, o, r => obs_app s o (obO a r)
theorem ob1_congr {k : Nat} (hk : k ≤ 1) {c : Int32} {x : Nat} {r r' : Nat → Int32} (h : ∀ j, j < 14 → r j = r' j) : ∀ j, j < 14 → ob1 k c x r j = ob1 k c x r' j := by
  intro j hj
  unfold ob1
  rw [h j hj, h k (by omega), h (4 + k) (by omega)]
theorem obO_congr {o : od_O} {r r' : Nat → Int32} (h : ∀ j, j < 14 → r j = r' j) : ∀ j, j < 14 → obO o r j = obO o r' j := by
  have a : ∀ j, j < 14 → obA o r j = obA o r' j := by
    intro j hj
    unfold obA
    split
    · exact h j hj
    · exact ob1_congr (by decide) h j hj
  intro j hj
  unfold obO
  split
  · exact a j hj
  · exact ob1_congr (by decide) a j hj
theorem rg_sub {s : Int32} {x : Nat} {hi : Int32} {b : Int} (hb : hi.toInt = b) (hb2 : b ≤ 9999) (hs : iv_in s 0 hi) (hx : x < 1000) : iv_in (f_mx 0 (s - nI x)) 0 hi := by
  have a := (iv_inI (a := 0) (b := b) rfl hb).mp hs
  have e : (nI x).toInt = x := nI_toInt (by omega)
  refine rg_mx ?_ ?_
  · rw [Int32.le_iff_toInt_le, ii_sub (by omega) (by omega) (by omega) (by omega), e, hb]
    omega
  · rw [Int32.le_iff_toInt_le, show (0 : Int32).toInt = 0 from rfl, hb]
    omega
theorem rg_ob1 {k : Nat} (hk : k = 0 ∨ k = 1) {c : Int32} {x : Nat} {r : Nat → Int32} (hx : x < 1000) (hb : c = 98 → x ≤ 90) (hr : rg r) : rg (ob1 k c x r) := by
  obtain ⟨⟨h0, h1, h2, h3, h4, h5⟩, ⟨h6, h7, h8, h9, h10, h11⟩, h12, h13⟩ := hr
  have s0 := rg_sub (hi := 999) (b := 999) rfl (by decide) h0 hx
  have s1 := rg_sub (hi := 999) (b := 999) rfl (by decide) h1 hx
  have s4 := rg_sub (hi := 9999) (b := 9999) rfl (by decide) h4 hx
  have s5 := rg_sub (hi := 9999) (b := 9999) rfl (by decide) h5 hx
  have sb : c = 98 → iv_in (nI x) 0 90 := fun q => ⟨nI_pos' (by omega), nI_le (b := 90) (hb q) (by omega)⟩
  unfold rg ob1
  by_cases c1 : c = 102
  · simp only [if_pos c1]
    rcases hk with rfl | rfl
    · exact ⟨⟨s0, h1, h2, h3, h4, h5⟩, ⟨h6, h7, h8, h9, h10, h11⟩, h12, h13⟩
    · exact ⟨⟨h0, s1, h2, h3, h4, h5⟩, ⟨h6, h7, h8, h9, h10, h11⟩, h12, h13⟩
  simp only [if_neg c1]
  by_cases c2 : c = 98
  · simp only [if_pos c2]
    rcases hk with rfl | rfl
    · exact ⟨⟨h0, h1, sb c2, h3, h4, h5⟩, ⟨h6, h7, h8, h9, h10, h11⟩, h12, h13⟩
    · exact ⟨⟨h0, h1, h2, sb c2, h4, h5⟩, ⟨h6, h7, h8, h9, h10, h11⟩, h12, h13⟩
  simp only [if_neg c2]
  by_cases c3 : c = 104
  · simp only [if_pos c3]
    rcases hk with rfl | rfl
    · exact ⟨⟨h0, h1, h2, h3, h4, h5⟩, ⟨Or.inr rfl, h7, h8, h9, h10, h11⟩, h12, h13⟩
    · exact ⟨⟨h0, h1, h2, h3, h4, h5⟩, ⟨h6, Or.inr rfl, h8, h9, h10, h11⟩, h12, h13⟩
  simp only [if_neg c3]
  by_cases c4 : c = 111
  · simp only [if_pos c4]
    rcases hk with rfl | rfl
    · exact ⟨⟨h0, h1, h2, h3, h4, h5⟩, ⟨Or.inl rfl, h7, h8, h9, h10, h11⟩, h12, h13⟩
    · exact ⟨⟨h0, h1, h2, h3, h4, h5⟩, ⟨h6, Or.inl rfl, h8, h9, h10, h11⟩, h12, h13⟩
  simp only [if_neg c4]
  rcases hk with rfl | rfl
  · exact ⟨⟨h0, h1, h2, h3, s4, h5⟩, ⟨h6, h7, h8, h9, h10, h11⟩, h12, h13⟩
  · exact ⟨⟨h0, h1, h2, h3, h4, s5⟩, ⟨h6, h7, h8, h9, h10, h11⟩, h12, h13⟩
theorem rg_obO {o : od_O} {r : Nat → Int32} (ho : od_ok o) (hr : rg r) : rg (obO o r) := by
  have a : rg (obA o r) := by
    unfold obA
    split
    · exact hr
    · exact rg_ob1 (Or.inl rfl) ho.2.2.1 ho.2.2.2 hr
  unfold obO
  split
  · exact a
  · exact rg_ob1 (Or.inr rfl) ho.2.2.1 ho.2.2.2 a
