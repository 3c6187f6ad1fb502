/-- a method's list is right -/
def am_mok (Y : am_Y) (M : am_M) (mid : Nat) : Bool := am_chk Y (Y mid).1.cls (Y mid).2.1 (decide ((Y mid).1.name = "<init>")) (Y mid).2.2.2.1 (M mid).1 (M mid).1 && (Nat.beq (am_pcl (M mid).1) 0 && Nat.beq (M mid).2 (Y mid).2.2.1)
set_option maxHeartbeats 4000000 in
/-- THE MACHINE DOES WHAT THE SMALL MACHINE DOES: a run of it is a contract -/
theorem am_run_snd {l : Launch} {K : am_K} {I : am_I} {M : am_M} {Y : am_Y} {D : va_G} {cA : Nat → ClassId} {B : Nat} (hI : am_IOK l B K I) (hY : ∀ mid, mid < am_N → am_yok Y mid) (hM : ∀ mid, mid < am_N → am_mok Y M mid = true) : ∀ (d mid : Nat) (as : List Value) (hp : am_H) (mc ms : Nat) (Q : Option Value → am_H → Prop), mid < am_N → am_run K I M d mid as hp mc ms Q → am_Met l Y D cA B K mid as hp mc ms Q d
  | 0, mid, as, hp, mc, ms, Q, hm, h => False.elim h
  | d + 1, mid, as, hp, mc, ms, Q, hm, h => by
    intro ad0
    obtain ⟨hsz, h⟩ := h
    have hsz := Nat.le_of_ble_eq_true hsz
    obtain ⟨y1, y2, y3, y4, y5⟩ := hY mid hm
    obtain ⟨m1, m2⟩ := (Bool.and_eq_true _ _).mp (hM mid hm)
    obtain ⟨m2, m3⟩ := (Bool.and_eq_true _ _).mp m2
    have m2 := Nat.eq_of_beq_eq_true m2
    have m3 := Nat.eq_of_beq_eq_true m3
    refine Met.ofW (cc := (Y mid).2.1) (maxL := (Y mid).2.2.1) (ret := (Y mid).2.2.2.1) y5 rfl ?_
    intro p e s m args below meth c s₁ Bd hml hv
    obtain ⟨rfl, hBs, hTW, hK, hCU, hP, hD⟩ := hv
    have hx := Bd.exec
    have hb := Bd.bytes
    have hrt := Bd.returns
    have hlocks := Bd.notSynchronized
    have hown : s.vm.findClass (Y mid).1.cls = some m.cls := findClass_of_methodNamed Bd.named
    have hX : am_CX p (am_rm (d + 1) mc ms) s m meth c D cA B (M mid).1 (Y mid).2.2.1 mc ms ad0 K (Y mid).1.cls (Y mid).2.1 (decide ((Y mid).1.name = "<init>")) (Y mid).2.2.2.1 Y := by
      refine ⟨hx, hb, hml, hown, fun hi => ?_, hTW, hK, hCU, hBs, ⟨Nat.le_refl _, Nat.le_refl _⟩, ⟨?_, ?_⟩, fun q is hq => am_chk_suf _ m1 q is hq⟩
      · rw [(name_of_methodNamed Bd.named Bd.method).1]
        exact of_decide_eq_true hi
      · show 8 ≤ d + 1 + 8
        omega
      · show 400 ≤ 60 * (d + 1) + 400
        omega
    have key := h _ (am_snd (p := p) (l := l) (e := e) (R := am_rm (d + 1) mc ms) (s := s) (m := m) (args := (as.map (am_v ad0)).toArray) (below := below) (meth := meth) (c := c) (Qf := MQ below (am_Qc D cA B ad0 hp mc Q) (as.map (am_v ad0)).toArray s mc ms (fun a => B ≤ a)) (n0 := hp.1.length) (dd := d) hX hI (fun mid2 as2 hp2 c2 s2 Q2 hm2 hr2 => am_run_snd hI hY hM d mid2 as2 hp2 c2 s2 Q2 hm2 hr2) ⟨by show d + 9 ≤ d + 1 + 8; omega, by show 60 * d + 460 ≤ 60 * (d + 1) + 400; omega⟩ hY ?_)
    · have hl := lv_entry (as.map (am_v ad0)) (n := (Y mid).2.2.1) (by rw [am_sl_len]; rw [← m3]; exact hsz)
      rw [lg_entry_eq]
      generalize (lg_sl (as.map (am_v ad0)) ++ List.replicate ((Y mid).2.2.1 - (lg_sl (as.map (am_v ad0))).length) Slot.unset).toArray = la at hl ⊢
      have k := key ad0 s.heap [] la ⟨⟨List.suffix_refl _, fun _ => rfl, fun _ _ => rfl, Nat.le_refl _, Nat.zero_le _, Nat.zero_le _⟩, hP, hD, va_S.rf, hl.1, hl.2.1, fun i v hg => ?_, ?_⟩
      · dsimp only at k
        rw [m2] at k
        exact k
      · have := am_ent_at (ad := ad0) (M mid).2 as 0 i v hg
        rw [Nat.zero_add] at this
        exact hl.2.2 _ this
      · show (am_ent (M mid).2 as).length = _
        rw [am_ent_len, m3]
    · intro pc ins rs im wl is ls st hp2 nc ns ad H locs la hr hdg o hQ hRT
      refine W.widen hr.1.2.2.2.2.1 hr.1.2.2.2.2.2 ?_
      have hend : ∀ t : State, t.heap = H → s.WarmedH t.vm → am_Qc D cA B ad0 hp mc Q (as.map (am_v ad0)).toArray s (.returned (o.map (am_v ad))) t := fun t ht _ => ⟨⟨o, hp2, ad, rfl, hQ, hr.1.2.1, hr.1.2.2.1, hr.1.2.2.2.1, by rw [ht]; exact hr.2.1, hr.2.2.1⟩, hr.2.2.2.1.F ht⟩
      rcases hRT with ⟨x, rfl, rfl, rfl, hret⟩ | ⟨x, rfl, rfl, rfl, hret⟩ | ⟨k, C, rfl, rfl, rfl, hret⟩ | ⟨rfl, rfl, rfl, hret⟩
      · rcases hret with hret | ⟨hret, hx01⟩
        · exact W.iret (v := x) hx hb (hrt.trans hret) hend hr.2.2.2.1.2.2 hdg
        · exact W.zret (v := x) (ty := .boolean) hx hb (hrt.trans hret) (by rcases hx01 with rfl | rfl <;> rfl) hend hr.2.2.2.1.2.2 hdg
      · exact W.lret (v := x) hx hb (hrt.trans hret) hend hr.2.2.2.1.2.2 hdg
      · exact W.aret (v := .ref (ad k)) hx hb (hrt.trans hret) (Or.inl ⟨C, rfl⟩) (Or.inr ⟨_, rfl⟩) hend hr.2.2.2.1.2.2 hdg
      · exact W.vret hx hb (hrt.trans hret) hend hr.2.2.2.1.2.2 hdg
