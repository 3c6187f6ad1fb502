/-! ===== the law's own list is right ===== -/
def st_ck : Nat → List am_E → Bool
  | 0, _ => true
  | _ + 1, [] => true
  | n + 1, q :: is => am_okb am_y "TwoKingsLaw" code false ret cd_L q is && st_ck n is
theorem st_ck_join : ∀ (n : Nat) (l : List am_E), st_ck n l = true → am_chk am_y "TwoKingsLaw" code false ret cd_L (l.drop n) = true → am_chk am_y "TwoKingsLaw" code false ret cd_L l = true
  | 0, _, _, h => h
  | _ + 1, [], _, _ => rfl
  | n + 1, q :: is, h, h2 => by
    obtain ⟨h3, h4⟩ := (Bool.and_eq_true _ _).mp h
    exact (Bool.and_eq_true _ _).mpr ⟨h3, st_ck_join n is h4 h2⟩
set_option maxRecDepth 100000 in
set_option maxHeartbeats 4000000 in
theorem st_c0 : st_ck 50 (cd_L.drop 0) = true := by decide +kernel
set_option maxRecDepth 100000 in
set_option maxHeartbeats 4000000 in
theorem st_c50 : st_ck 50 (cd_L.drop 50) = true := by decide +kernel
set_option maxRecDepth 100000 in
set_option maxHeartbeats 4000000 in
theorem st_c100 : st_ck 50 (cd_L.drop 100) = true := by decide +kernel
set_option maxRecDepth 100000 in
set_option maxHeartbeats 4000000 in
theorem st_c150 : st_ck 50 (cd_L.drop 150) = true := by decide +kernel
set_option maxRecDepth 100000 in
set_option maxHeartbeats 4000000 in
theorem st_c200 : st_ck 50 (cd_L.drop 200) = true := by decide +kernel
set_option maxRecDepth 100000 in
set_option maxHeartbeats 4000000 in
theorem st_c250 : st_ck 50 (cd_L.drop 250) = true := by decide +kernel
set_option maxRecDepth 100000 in
set_option maxHeartbeats 4000000 in
theorem st_c300 : st_ck 50 (cd_L.drop 300) = true := by decide +kernel
set_option maxRecDepth 100000 in
set_option maxHeartbeats 4000000 in
theorem st_c350 : st_ck 50 (cd_L.drop 350) = true := by decide +kernel
set_option maxRecDepth 100000 in
set_option maxHeartbeats 4000000 in
theorem st_c400 : st_ck 50 (cd_L.drop 400) = true := by decide +kernel
set_option maxRecDepth 100000 in
set_option maxHeartbeats 4000000 in
theorem st_c450 : st_ck 50 (cd_L.drop 450) = true := by decide +kernel
set_option maxRecDepth 100000 in
set_option maxHeartbeats 4000000 in
theorem st_c500 : st_ck 50 (cd_L.drop 500) = true := by decide +kernel
set_option maxRecDepth 100000 in
set_option maxHeartbeats 4000000 in
theorem st_c550 : st_ck 50 (cd_L.drop 550) = true := by decide +kernel
set_option maxRecDepth 100000 in
set_option maxHeartbeats 4000000 in
theorem st_c600 : st_ck 50 (cd_L.drop 600) = true := by decide +kernel
set_option maxRecDepth 100000 in
set_option maxHeartbeats 4000000 in
theorem st_c650 : st_ck 50 (cd_L.drop 650) = true := by decide +kernel
set_option maxRecDepth 100000 in
set_option maxHeartbeats 4000000 in
theorem st_c700 : st_ck 50 (cd_L.drop 700) = true := by decide +kernel
set_option maxRecDepth 100000 in
set_option maxHeartbeats 4000000 in
theorem st_c750 : st_ck 50 (cd_L.drop 750) = true := by decide +kernel
set_option maxRecDepth 100000 in
set_option maxHeartbeats 4000000 in
theorem st_c800 : st_ck 50 (cd_L.drop 800) = true := by decide +kernel
set_option maxRecDepth 100000 in
set_option maxHeartbeats 4000000 in
theorem st_e : cd_L.drop 850 = [] := by decide +kernel
theorem st_d850 : am_chk am_y "TwoKingsLaw" code false ret cd_L (cd_L.drop 850) = true := by rw [st_e]; rfl
theorem st_d800 : am_chk am_y "TwoKingsLaw" code false ret cd_L (cd_L.drop 800) = true := st_ck_join 50 _ st_c800 (by rw [List.drop_drop]; exact st_d850)
theorem st_d750 : am_chk am_y "TwoKingsLaw" code false ret cd_L (cd_L.drop 750) = true := st_ck_join 50 _ st_c750 (by rw [List.drop_drop]; exact st_d800)
theorem st_d700 : am_chk am_y "TwoKingsLaw" code false ret cd_L (cd_L.drop 700) = true := st_ck_join 50 _ st_c700 (by rw [List.drop_drop]; exact st_d750)
theorem st_d650 : am_chk am_y "TwoKingsLaw" code false ret cd_L (cd_L.drop 650) = true := st_ck_join 50 _ st_c650 (by rw [List.drop_drop]; exact st_d700)
theorem st_d600 : am_chk am_y "TwoKingsLaw" code false ret cd_L (cd_L.drop 600) = true := st_ck_join 50 _ st_c600 (by rw [List.drop_drop]; exact st_d650)
theorem st_d550 : am_chk am_y "TwoKingsLaw" code false ret cd_L (cd_L.drop 550) = true := st_ck_join 50 _ st_c550 (by rw [List.drop_drop]; exact st_d600)
theorem st_d500 : am_chk am_y "TwoKingsLaw" code false ret cd_L (cd_L.drop 500) = true := st_ck_join 50 _ st_c500 (by rw [List.drop_drop]; exact st_d550)
theorem st_d450 : am_chk am_y "TwoKingsLaw" code false ret cd_L (cd_L.drop 450) = true := st_ck_join 50 _ st_c450 (by rw [List.drop_drop]; exact st_d500)
theorem st_d400 : am_chk am_y "TwoKingsLaw" code false ret cd_L (cd_L.drop 400) = true := st_ck_join 50 _ st_c400 (by rw [List.drop_drop]; exact st_d450)
theorem st_d350 : am_chk am_y "TwoKingsLaw" code false ret cd_L (cd_L.drop 350) = true := st_ck_join 50 _ st_c350 (by rw [List.drop_drop]; exact st_d400)
theorem st_d300 : am_chk am_y "TwoKingsLaw" code false ret cd_L (cd_L.drop 300) = true := st_ck_join 50 _ st_c300 (by rw [List.drop_drop]; exact st_d350)
theorem st_d250 : am_chk am_y "TwoKingsLaw" code false ret cd_L (cd_L.drop 250) = true := st_ck_join 50 _ st_c250 (by rw [List.drop_drop]; exact st_d300)
theorem st_d200 : am_chk am_y "TwoKingsLaw" code false ret cd_L (cd_L.drop 200) = true := st_ck_join 50 _ st_c200 (by rw [List.drop_drop]; exact st_d250)
theorem st_d150 : am_chk am_y "TwoKingsLaw" code false ret cd_L (cd_L.drop 150) = true := st_ck_join 50 _ st_c150 (by rw [List.drop_drop]; exact st_d200)
theorem st_d100 : am_chk am_y "TwoKingsLaw" code false ret cd_L (cd_L.drop 100) = true := st_ck_join 50 _ st_c100 (by rw [List.drop_drop]; exact st_d150)
theorem st_d50 : am_chk am_y "TwoKingsLaw" code false ret cd_L (cd_L.drop 50) = true := st_ck_join 50 _ st_c50 (by rw [List.drop_drop]; exact st_d100)
theorem st_d0 : am_chk am_y "TwoKingsLaw" code false ret cd_L (cd_L.drop 0) = true := st_ck_join 50 _ st_c0 (by rw [List.drop_drop]; exact st_d50)
theorem st_chk : am_chk am_y "TwoKingsLaw" code false ret cd_L cd_L = true := st_d0
