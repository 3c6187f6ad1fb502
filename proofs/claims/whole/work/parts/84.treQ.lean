/-! ===== treaties: the reference's moments ===== -/
/-- a labelling that keeps the lines -/
def tr_val (l : List tr_L) (M : Nat → Nat) : Prop := ∀ x y e, (x, y, e) ∈ l → (e = true → M x = M y) ∧ (e = false → M x + 1 ≤ M y)
theorem tr_val_ah {l : List tr_L} {M : Nat → Nat} (h : tr_val l M) {a b : Nat} (hb : tr_ah l b a) : M b < M a := hb (fun b a => M b < M a) (fun x y hxy => (h x y _ hxy).2 rfl) (fun x y z hxy => by
  have := (h x y _ hxy).1 rfl
  rw [this]
  exact ⟨Iff.rfl, Iff.rfl⟩) (fun x y z h1 h2 => Nat.lt_trans h1 h2)
theorem tr_val_con {l : List tr_L} {M : Nat → Nat} (h : tr_val l M) : ¬ tr_con l := fun ⟨a, ha⟩ => absurd (tr_val_ah h ha) (by omega)
theorem tr_mo_val {l : List tr_L} {M : Nat → Nat} (hl : tr_16 l) (h : tr_mo l M) : tr_val l M := by
  have le : ∀ x y, x < 16 → y < 16 → tr_eq l x y → M x ≤ M y := by
    intro x y hx hy e
    rcases (h x hx).2.2 with q | ⟨b, hb, q1, q2⟩
    · have := (h y hy).1.1
      omega
    · have := (h y hy).2.1 b hb (tr_ah_r e q1)
      omega
  intro x y e hm
  obtain ⟨hx, hy⟩ := hl x y e hm
  refine ⟨fun q => ?_, fun q => ?_⟩
  · subst q
    have e := tr_eq_ln hm
    have := le x y hx hy e
    have := le y x hy hx (tr_eq_sy e)
    omega
  · subst q
    exact (h y hy).2.1 x hx (tr_ah_ln hm)
/-- what a pass over the lines does -/
def tr_pas (l : List tr_L) (mo mo' : Nat → Nat) : Prop := ∀ x y e, (x, y, e) ∈ l → (e = false → mo x + 1 ≤ mo' y) ∧ (e = true → mo x ≤ mo' y ∧ mo y ≤ mo' x)
theorem tr_prog {l : List tr_L} (hl : tr_16 l) {M mo mo' : Nat → Nat} (hM : tr_mo l M) (h1 : ∀ a, a < 16 → 1 ≤ mo a) (h2 : ∀ a, a < 16 → mo a ≤ mo' a) (h3 : ∀ a, a < 16 → mo' a ≤ M a) (hp : tr_pas l mo mo') : (∀ a, a < 16 → mo a = M a) ∨ ∃ a, a < 16 ∧ mo' a = M a ∧ mo a ≠ M a := by
  refine Classical.byContradiction (fun hn => ?_)
  have n1 : ¬ ∀ a, a < 16 → mo a = M a := fun q => hn (Or.inl q)
  have n2 : ∀ a, a < 16 → mo' a = M a → mo a = M a := fun a ha q => Classical.byContradiction (fun z => hn (Or.inr ⟨a, ha, q, z⟩))
  have hv := tr_mo_val hl hM
  -- those that are not there yet, one less
  have key : ∀ b a, tr_ah l b a → (if mo b = M b then M b else M b - 1) < (if mo a = M a then M a else M a - 1) := by
    intro b a hb
    refine hb (fun b a => (if mo b = M b then M b else M b - 1) < (if mo a = M a then M a else M a - 1)) (fun x y hxy => ?_) (fun x y z hxy => ?_) (fun x y z g1 g2 => Nat.lt_trans g1 g2)
    · obtain ⟨hx, hy⟩ := hl x y _ hxy
      have v1 := (hv x y _ hxy).2 rfl
      have p1 := (hp x y _ hxy).1 rfl
      have y3 := h3 y hy
      have x1 := h1 x hx
      have x2 := h2 x hx
      have x3 := h3 x hx
      by_cases qx : mo x = M x
      · rw [if_pos qx]
        by_cases qy : mo y = M y
        · rw [if_pos qy]
          omega
        · rw [if_neg qy]
          have : mo' y ≠ M y := fun z => qy (n2 y hy z)
          omega
      · rw [if_neg qx]
        split <;> omega
    · obtain ⟨hx, hy⟩ := hl x y _ hxy
      have v1 := (hv x y _ hxy).1 rfl
      obtain ⟨p1, p2⟩ := (hp x y _ hxy).2 rfl
      have y3 := h3 y hy
      have x3 := h3 x hx
      have e : (if mo x = M x then M x else M x - 1) = (if mo y = M y then M y else M y - 1) := by
        by_cases qx : mo x = M x
        · have qy : mo y = M y := n2 y hy (by omega)
          rw [if_pos qx, if_pos qy, v1]
        · by_cases qy : mo y = M y
          · exact absurd (n2 x hx (by omega)) qx
          · rw [if_neg qx, if_neg qy, v1]
      rw [e]
      exact ⟨Iff.rfl, Iff.rfl⟩
  have dn : ∀ (k a : Nat), M a ≤ k → a < 16 → mo a = M a := by
    intro k
    induction k with
    | zero =>
      intro a hk ha
      have := (hM a ha).1.1
      omega
    | succ k ih =>
      intro a hk ha
      refine Classical.byContradiction (fun q => ?_)
      have a1 := h1 a ha
      have a2 := h2 a ha
      have a3 := h3 a ha
      rcases (hM a ha).2.2 with z | ⟨b, hb, z1, z2⟩
      · omega
      · have g := key b a z1
        rw [if_neg q, if_pos (ih b (by omega) hb)] at g
        omega
  exact n1 (fun a ha => dn (M a) a (Nat.le_refl _) ha)
/-- how many are there already -/
def fnC (mo M : Nat → Nat) : Nat := ctP (fun a => decide (mo a = M a)) 16
theorem fnC_lt {mo mo' M : Nat → Nat} (h2 : ∀ a, a < 16 → mo a ≤ mo' a) (h3 : ∀ a, a < 16 → mo' a ≤ M a) {a : Nat} (ha : a < 16) (h4 : mo' a = M a) (h5 : mo a ≠ M a) : fnC mo M < fnC mo' M := by
  unfold fnC
  refine ct_lt (i := a) (fun j hj q => ?_) ha (by simpa using h4) (by simpa using h5)
  have q : mo j = M j := by simpa using q
  have := h2 j hj
  have := h3 j hj
  simp
  omega
theorem fnC_16 {mo M : Nat → Nat} (h : 16 ≤ fnC mo M) : ∀ a, a < 16 → mo a = M a := by
  intro a ha
  refine Classical.byContradiction (fun q => ?_)
  have := ct_lt (r := fun a => decide (mo a = M a)) (s := fun _ => true) (n := 16) (i := a) (fun _ _ _ => rfl) ha rfl (by simpa using q)
  have := ct_n (r := fun _ => true) 16
  unfold fnC at h
  omega
/-- a line lifts: where to; whether -/
def lfL (mo : Nat → Nat) (l : tr_L) : Nat := if l.2.2 = true then max (mo l.1) (mo l.2.1) else mo l.1 + 1
def lfB (mo : Nat → Nat) (l : tr_L) : Bool := decide (lfL mo l ≤ 17 ∧ (mo l.2.1 < lfL mo l ∨ (l.2.2 = true ∧ mo l.1 < lfL mo l)))
def lfM (mo : Nat → Nat) (l : tr_L) : Nat → Nat := fun a => if lfL mo l ≤ 17 then (if l.2.2 = true ∧ mo l.1 < lfL mo l ∧ a = l.1 then lfL mo l else if mo l.2.1 < lfL mo l ∧ a = l.2.1 then lfL mo l else mo a) else mo a
/-- what holds of the moments while they are laid -/
def mo_ok (l : List tr_L) (mo : Nat → Nat) : Prop := ∀ a, a < 16 → (1 ≤ mo a ∧ mo a ≤ 17) ∧ (mo a = 1 ∨ ∃ b, b < 16 ∧ tr_ah l b a ∧ mo a ≤ mo b + 1) ∧ ∀ M, tr_mo l M → mo a ≤ M a
theorem lfM_up {mo : Nat → Nat} {l : tr_L} (a : Nat) : mo a ≤ lfM mo l a := by
  unfold lfM
  split
  · split
    · rename_i h
      rw [h.2.2]
      omega
    · split
      · rename_i h
        rw [h.2]
        omega
      · exact Nat.le_refl _
  · exact Nat.le_refl _
theorem lfM_no {mo : Nat → Nat} {l : tr_L} (h : lfB mo l = false) : lfM mo l = mo := by
  have h : ¬ (lfL mo l ≤ 17 ∧ (mo l.2.1 < lfL mo l ∨ (l.2.2 = true ∧ mo l.1 < lfL mo l))) := by
    unfold lfB at h
    exact of_decide_eq_false h
  funext a
  unfold lfM
  by_cases q : lfL mo l ≤ 17
  · rw [if_pos q, if_neg (fun z => h ⟨q, Or.inr ⟨z.1, z.2.1⟩⟩), if_neg (fun z => h ⟨q, Or.inl z.1⟩)]
  · rw [if_neg q]
theorem lf_val {mo : Nat → Nat} {x y : Nat} {e : Bool} (h1 : e = true → mo x = mo y) (h2 : e = false → mo x + 1 ≤ mo y) : lfB mo (x, y, e) = false := by
  unfold lfB
  refine decide_eq_false (fun q => ?_)
  unfold lfL at q
  cases e with
  | true =>
    have := h1 rfl
    simp at q
    omega
  | false =>
    have := h2 rfl
    simp at q
    omega
theorem lf_ok {l : List tr_L} (hl : tr_16 l) {mo : Nat → Nat} (h : mo_ok l mo) {x y : Nat} {e : Bool} (hm : (x, y, e) ∈ l) : mo_ok l (lfM mo (x, y, e)) := by
  obtain ⟨hx, hy⟩ := hl x y e hm
  intro a ha
  obtain ⟨h1, h2, h3⟩ := h a ha
  have up : ∀ b, mo b ≤ lfM mo (x, y, e) b := lfM_up
  -- where it goes
  have at_ : lfL mo (x, y, e) ≤ 17 → (a = y ∨ (e = true ∧ a = x)) → (mo a < lfL mo (x, y, e)) → (1 ≤ lfL mo (x, y, e) ∧ lfL mo (x, y, e) ≤ 17) ∧ (lfL mo (x, y, e) = 1 ∨ ∃ b, b < 16 ∧ tr_ah l b a ∧ lfL mo (x, y, e) ≤ lfM mo (x, y, e) b + 1) ∧ ∀ M, tr_mo l M → lfL mo (x, y, e) ≤ M a := by
    intro q17 qa qlt
    refine ⟨⟨by omega, q17⟩, ?_, fun M hM => ?_⟩
    · right
      cases e with
      | false =>
        have : a = y := by
          rcases qa with z | ⟨z, -⟩
          · exact z
          · exact absurd z (by decide)
        subst this
        refine ⟨x, hx, tr_ah_ln hm, ?_⟩
        have := up x
        show mo x + 1 ≤ _
        omega
      | true =>
        have eq : tr_eq l x y := tr_eq_ln hm
        have el : lfL mo (x, y, true) = max (mo x) (mo y) := rfl
        rw [el] at qlt ⊢
        -- the other one is later
        have oth : ∃ z, z < 16 ∧ tr_eq l z a ∧ max (mo x) (mo y) = mo z := by
          rcases qa with z | ⟨-, z⟩
          · subst z
            exact ⟨x, hx, eq, by omega⟩
          · subst z
            exact ⟨y, hy, tr_eq_sy eq, by omega⟩
        obtain ⟨z, hz, z1, z2⟩ := oth
        rw [z2]
        rcases (h z hz).2.1 with g | ⟨b, hb, g1, g2⟩
        · omega
        · have := up b
          exact ⟨b, hb, tr_ah_r z1 g1, by omega⟩
    · have hv := tr_mo_val hl hM
      have mx := (h x hx).2.2 M hM
      have my := (h y hy).2.2 M hM
      cases e with
      | false =>
        have v1 := (hv x y _ hm).2 rfl
        have : a = y := by
          rcases qa with z | ⟨z, -⟩
          · exact z
          · exact absurd z (by decide)
        subst this
        show mo x + 1 ≤ _
        omega
      | true =>
        have v1 := (hv x y _ hm).1 rfl
        show max (mo x) (mo y) ≤ _
        rcases qa with z | ⟨-, z⟩
        · subst z
          omega
        · subst z
          omega
  have kp : (1 ≤ mo a ∧ mo a ≤ 17) ∧ (mo a = 1 ∨ ∃ b, b < 16 ∧ tr_ah l b a ∧ mo a ≤ lfM mo (x, y, e) b + 1) ∧ ∀ M, tr_mo l M → mo a ≤ M a := by
    refine ⟨h1, h2.elim Or.inl (fun ⟨b, g1, g2, g3⟩ => Or.inr ⟨b, g1, g2, ?_⟩), h3⟩
    have := up b
    omega
  have cs : lfM mo (x, y, e) a = mo a ∨ (lfL mo (x, y, e) ≤ 17 ∧ (a = y ∨ (e = true ∧ a = x)) ∧ mo a < lfL mo (x, y, e) ∧ lfM mo (x, y, e) a = lfL mo (x, y, e)) := by
    unfold lfM
    by_cases q : lfL mo (x, y, e) ≤ 17
    · rw [if_pos q]
      dsimp only
      by_cases q2 : e = true ∧ mo x < lfL mo (x, y, e) ∧ a = x
      · rw [if_pos q2]
        refine Or.inr ⟨q, Or.inr ⟨q2.1, q2.2.2⟩, ?_, rfl⟩
        rw [q2.2.2]
        exact q2.2.1
      · rw [if_neg q2]
        by_cases q3 : mo y < lfL mo (x, y, e) ∧ a = y
        · rw [if_pos q3]
          refine Or.inr ⟨q, Or.inl q3.2, ?_, rfl⟩
          rw [q3.2]
          exact q3.1
        · rw [if_neg q3]
          exact Or.inl rfl
    · rw [if_neg q]
      exact Or.inl rfl
  rcases cs with c | ⟨c1, c2, c3, c4⟩
  · rw [c]
    exact kp
  · rw [c4]
    exact at_ c1 c2 c3
theorem lf_pas {l : List tr_L} (hl : tr_16 l) {mo : Nat → Nat} (h : mo_ok l mo) {x y : Nat} {e : Bool} (hm : (x, y, e) ∈ l) {M : Nat → Nat} (hM : tr_mo l M) : (e = false → mo x + 1 ≤ lfM mo (x, y, e) y) ∧ (e = true → mo x ≤ lfM mo (x, y, e) y ∧ mo y ≤ lfM mo (x, y, e) x) := by
  obtain ⟨hx, hy⟩ := hl x y e hm
  have mx := (h x hx).2.2 M hM
  have my := (h y hy).2.2 M hM
  have bx := (hM x hx).1.2
  have by_ := (hM y hy).1.2
  have hv := tr_mo_val hl hM
  refine ⟨fun q => ?_, fun q => ?_⟩
  · subst q
    have : lfL mo (x, y, false) = mo x + 1 := rfl
    have v1 := (hv x y _ hm).2 rfl
    unfold lfM
    rw [this, if_pos (by omega)]
    dsimp only
    rw [if_neg (fun z => absurd z.1 (by decide))]
    by_cases z : mo y < mo x + 1
    · rw [if_pos ⟨z, rfl⟩]
      omega
    · rw [if_neg (fun t => z t.1)]
      omega
  · subst q
    have e1 : lfL mo (x, y, true) = max (mo x) (mo y) := rfl
    have v1 := (hv x y _ hm).1 rfl
    have q17 : max (mo x) (mo y) ≤ 17 := by omega
    unfold lfM
    rw [e1]
    simp only [if_pos q17]
    constructor
    · split
      · omega
      · split
        · omega
        · rename_i t
          have : ¬ mo y < max (mo x) (mo y) := fun q => t ⟨q, trivial⟩
          omega
    · split
      · omega
      · rename_i t
        have : ¬ mo x < max (mo x) (mo y) := fun q => t ⟨trivial, q, trivial⟩
        split <;> omega
section M84
variable {K : am_K} {I : am_I} {d : Nat} {v : am_V} {w : am_X} {Q : Option Value → am_H → Prop} {ls : List tr_L}
def mo_at (v : am_V) (mo : Nat → Nat) : Prop := ∀ a, a < 16 → v 92 a = nI (mo a)
set_option maxRecDepth 100000 in
set_option maxHeartbeats 4000000 in
theorem m_lifts {mo : Nat → Nat} {q x y : Nat} {e : Bool} (hq : q < 24) (hl : ls[q]? = some (x, y, e)) (hln : tr_ln v ls) (hm : mo_at v mo) (h17 : ∀ a, a < 16 → mo a ≤ 17) (h : ∀ v' : am_V, (∀ k, k ≠ 92 → v' k = v k) → mo_at v' (lfM mo (x, y, e)) → Q (some (.int (b2i (lfB mo (x, y, e))))) (am_sh, v', w)) : am_run K I am_m (d + 2) 203 [.ref 62, .int (nI q)] (am_sh, v, w) 0 0 Q := by
  obtain ⟨hx, hy, l88, l89, l93⟩ := hln q x y e hl
  have mx := h17 x hx
  have my := h17 y hy
  have nd_ : ∀ (z : Nat) (y' : Int32), am_up v 92 z y' 93 = v 93 ∧ am_up v 92 z y' 88 = v 88 ∧ am_up v 92 z y' 89 = v 89 := fun z y' => ⟨am_up_ne _ _ _ (by decide), am_up_ne _ _ _ (by decide), am_up_ne _ _ _ (by decide)⟩
  refine en_X12_lifts rfl ?_
  intro P hP
  -- the last store and the end
  have fin : ∀ (u : am_V) (bl : Bool), bl = lfB mo (x, y, e) → lfL mo (x, y, e) ≤ 17 → (∀ k, k ≠ 92 → u k = v k) → (∀ a, a < 16 → u 92 a = nI (if mo y < lfL mo (x, y, e) ∧ a = y then lfL mo (x, y, e) else mo a)) → P (cd_X12_lifts.drop 60, [some (.ref 62), some (.int (nI q)), some (.int (nI (mo x))), some (.int (nI (mo y))), some (.int (nI (lfL mo (x, y, e)))), some (.int (b2i bl))], [], (am_sh, u, w), 0, 0) := by
    intro u bl hbl q17 hu hu2
    have un : ¬ (e = true ∧ mo x < lfL mo (x, y, e)) → Q (some (.int (b2i bl))) (am_sh, u, w) := by
      intro z
      rw [hbl]
      refine h u hu (fun a ha => ?_)
      have e1 : lfM mo (x, y, e) a = (if mo y < lfL mo (x, y, e) ∧ a = y then lfL mo (x, y, e) else mo a) := by
        unfold lfM
        rw [if_pos q17]
        dsimp only
        rw [if_neg (fun t => z ⟨t.1, t.2.1⟩)]
      rw [hu2 a ha, e1]
    ((repeat' first | refine hP _ ?_ | fail); try dsimp only)
    refine ⟨vp_in_nI (by omega) (by omega), ?_⟩
    ((repeat' first | refine hP _ ?_ | fail); try dsimp only)
    rw [nI_clamp (by omega), hu 93 (by decide), l93]
    cases e with
    | false =>
      refine ⟨fun _ => ?_, fun c => absurd rfl c⟩
      ((repeat' first | refine hP _ ?_ | fail); try dsimp only)
      exact ⟨by cases bl; exact Or.inl rfl; exact Or.inr rfl, un (fun z => absurd z.1 (by decide))⟩
    | true =>
      refine ⟨fun c => absurd c (by decide), fun _ => ?_⟩
      ((repeat' first | refine hP _ ?_ | fail); try dsimp only)
      refine ⟨fun c => ?_, fun c => ?_⟩
      · have c := (nI_leI (by omega) (by omega)).mp c
        ((repeat' first | refine hP _ ?_ | fail); try dsimp only)
        exact ⟨by cases bl; exact Or.inl rfl; exact Or.inr rfl, un (fun z => absurd z.2 (by omega))⟩
      · have c : mo x < lfL mo (x, y, true) := Nat.lt_of_not_le (fun z => c (nI_le z (by omega)))
        ((repeat' first | refine hP _ ?_ | fail); try dsimp only)
        refine ⟨vp_in_nI (by omega) (by omega), ?_⟩
        ((repeat' first | refine hP _ ?_ | fail); try dsimp only)
        rw [nI_clamp (by omega), hu 88 (by decide), l88]
        refine ⟨vp_in_nI (by omega) (by omega), ?_⟩
        dsimp only
        rw [nI_clamp (by omega)]
        ((repeat' first | refine hP _ ?_ | fail); try dsimp only)
        refine ⟨by cases bl; exact Or.inl rfl; exact Or.inr rfl, ?_⟩
        rw [hbl]
        refine h _ (fun k hk => by rw [am_up_ne _ _ _ hk, hu k hk]) (fun a ha => ?_)
        unfold lfM
        rw [if_pos q17]
        dsimp only
        rw [am_up_eq]
        by_cases z : a = x
        · rw [if_pos ⟨rfl, z⟩, if_pos ⟨rfl, c, z⟩]
        · rw [if_neg (fun t => z t.2), if_neg (fun t => z t.2.2), hu2 a ha]
  have mid : ∀ bl : Bool, bl = lfB mo (x, y, e) → lfL mo (x, y, e) ≤ 17 → P (cd_X12_lifts.drop 48, [some (.ref 62), some (.int (nI q)), some (.int (nI (mo x))), some (.int (nI (mo y))), some (.int (nI (lfL mo (x, y, e)))), none], [.int (b2i bl)], (am_sh, v, w), 0, 0) := by
    intro bl hbl q17
    ((repeat' first | refine hP _ ?_ | fail); try dsimp only)
    refine ⟨fun c => ?_, fun c => ?_⟩
    · have c := (nI_leI (by omega) (by omega)).mp c
      refine fin v bl hbl q17 (fun _ _ => rfl) (fun a ha => ?_)
      rw [hm a ha, if_neg (fun z => absurd z.1 (by omega))]
    · have c : mo y < lfL mo (x, y, e) := Nat.lt_of_not_le (fun z => c (nI_le z (by omega)))
      ((repeat' first | refine hP _ ?_ | fail); try dsimp only)
      refine ⟨vp_in_nI (by omega) (by omega), ?_⟩
      ((repeat' first | refine hP _ ?_ | fail); try dsimp only)
      rw [nI_clamp (by omega), l89]
      refine ⟨vp_in_nI (by omega) (by omega), ?_⟩
      dsimp only
      rw [nI_clamp (by omega)]
      refine fin _ bl hbl q17 (fun k hk => by rw [am_up_ne _ _ _ hk]) (fun a ha => ?_)
      rw [am_up_eq]
      by_cases z : a = y
      · rw [if_pos ⟨rfl, z⟩, if_pos ⟨c, z⟩]
      · rw [if_neg (fun t => z t.2), if_neg (fun t => z t.2), hm a ha]
  -- behind the least
  have lst : P (cd_X12_lifts.drop 28, [some (.ref 62), some (.int (nI q)), some (.int (nI (mo x))), some (.int (nI (mo y))), none, none], [.int (nI (lfL mo (x, y, e)))], (am_sh, v, w), 0, 0) := by
    have lb : lfL mo (x, y, e) ≤ 18 := by
      unfold lfL
      dsimp only
      split <;> omega
    ((repeat' first | refine hP _ ?_ | fail); try dsimp only)
    refine ⟨fun c => ?_, fun c => ?_⟩
    · have q17 : lfL mo (x, y, e) ≤ 17 := (nI_leI (b := 17) (by omega) (by omega)).mp c
      have yes : (mo y < lfL mo (x, y, e) ∨ (e = true ∧ mo x < lfL mo (x, y, e))) → P (cd_X12_lifts.drop 45, [some (.ref 62), some (.int (nI q)), some (.int (nI (mo x))), some (.int (nI (mo y))), some (.int (nI (lfL mo (x, y, e)))), none], [], (am_sh, v, w), 0, 0) := fun z => by
        ((iterate 2 refine hP _ ?_); try dsimp only)
        exact mid true (by unfold lfB; exact (decide_eq_true ⟨q17, z⟩).symm) q17
      have no : ¬ (mo y < lfL mo (x, y, e) ∨ (e = true ∧ mo x < lfL mo (x, y, e))) → P (cd_X12_lifts.drop 47, [some (.ref 62), some (.int (nI q)), some (.int (nI (mo x))), some (.int (nI (mo y))), some (.int (nI (lfL mo (x, y, e)))), none], [], (am_sh, v, w), 0, 0) := fun z => by
        ((iterate 1 refine hP _ ?_); try dsimp only)
        exact mid false (by unfold lfB; exact (decide_eq_false (fun t => z t.2)).symm) q17
      ((repeat' first | refine hP _ ?_ | fail); try dsimp only)
      refine ⟨fun c2 => yes (Or.inl ((nI_ltI (by omega) (by omega)).mp c2)), fun c2 => ?_⟩
      have c2 : ¬ mo y < lfL mo (x, y, e) := fun z => c2 (nI_lt z (by omega))
      ((repeat' first | refine hP _ ?_ | fail); try dsimp only)
      refine ⟨vp_in_nI (by omega) (by omega), ?_⟩
      ((repeat' first | refine hP _ ?_ | fail); try dsimp only)
      rw [nI_clamp (by omega), l93]
      cases e with
      | false => exact ⟨fun _ => no (fun z => z.elim c2 (fun t => absurd t.1 (by decide))), fun c => absurd rfl c⟩
      | true =>
        refine ⟨fun c => absurd c (by decide), fun _ => ?_⟩
        ((repeat' first | refine hP _ ?_ | fail); try dsimp only)
        refine ⟨fun c3 => no (fun z => z.elim c2 (fun t => absurd ((nI_leI (by omega) (by omega)).mp c3) (by omega))), fun c3 => ?_⟩
        exact yes (Or.inr ⟨rfl, Nat.lt_of_not_le (fun z => c3 (nI_le z (by omega)))⟩)
    · have q17 : ¬ lfL mo (x, y, e) ≤ 17 := fun z => c (nI_le (b := 17) z (by omega))
      ((repeat' first | refine hP _ ?_ | fail); try dsimp only)
      refine ⟨Or.inl rfl, ?_⟩
      have hq := h v (fun _ _ => rfl) (fun a ha => by unfold lfM; rw [if_neg q17]; exact hm a ha)
      rw [show lfB mo (x, y, e) = false from decide_eq_false (fun z => q17 z.1)] at hq
      exact hq
  ((repeat' first | refine hP _ ?_ | fail); try dsimp only)
  refine ⟨vp_in_nI (by omega) (by omega), ?_⟩
  ((repeat' first | refine hP _ ?_ | fail); try dsimp only)
  rw [nI_clamp (by omega), l88]
  refine ⟨vp_in_nI (by omega) (by omega), ?_⟩
  ((repeat' first | refine hP _ ?_ | fail); try dsimp only)
  refine ⟨vp_in_nI (by omega) (by omega), ?_⟩
  ((repeat' first | refine hP _ ?_ | fail); try dsimp only)
  rw [nI_clamp (by omega), nI_clamp (by omega), l89]
  refine ⟨vp_in_nI (by omega) (by omega), ?_⟩
  ((repeat' first | refine hP _ ?_ | fail); try dsimp only)
  refine ⟨vp_in_nI (by omega) (by omega), ?_⟩
  ((repeat' first | refine hP _ ?_ | fail); try dsimp only)
  rw [nI_clamp (by omega), nI_clamp (by omega), hm x hx, hm y hy, l93]
  cases e with
  | false =>
    refine ⟨fun _ => ?_, fun c => absurd rfl c⟩
    rw [show lfL mo (x, y, false) = mo x + 1 from rfl, ← nI_1] at lst
    ((iterate 3 refine hP _ ?_); try dsimp only)
    exact lst
  | true =>
    refine ⟨fun c => absurd c (by decide), fun _ => ?_⟩
    ((repeat' first | refine hP _ ?_ | fail); try dsimp only)
    refine m_X12_max ?_
    ((iterate 1 refine hP _ ?_); try dsimp only)
    rw [show (if nI (mo y) < nI (mo x) then nI (mo x) else nI (mo y)) = nI (lfL mo (x, y, true)) by
      show _ = nI (max (mo x) (mo y))
      by_cases z : mo y < mo x
      · rw [if_pos (nI_lt z (by omega))]
        congr 1
        omega
      · rw [if_neg (fun t => z ((nI_ltI (by omega) (by omega)).mp t))]
        congr 1
        omega]
    exact lst
end M84
