theorem am_le0 {P : Nat → Prop} : ∀ i, i < 0 → P i := fun _ h => absurd h (Nat.not_lt_zero _)
theorem am_leS {P : Nat → Prop} {n : Nat} (h : ∀ i, i < n → P i) (h1 : P n) : ∀ i, i < n + 1 → P i := fun i hi => (Nat.lt_succ_iff_lt_or_eq.mp hi).elim (h i) (fun e => e ▸ h1)
set_option maxRecDepth 100000 in
theorem yk_0 : am_yok am_y 0 := ⟨rfl, rfl, Nat.le_of_ble_eq_true rfl, ⟨by decide +kernel, by decide +kernel⟩, by decide +kernel⟩
set_option maxRecDepth 100000 in
theorem yk_1 : am_yok am_y 1 := ⟨rfl, rfl, Nat.le_of_ble_eq_true rfl, ⟨by decide +kernel, by decide +kernel⟩, by decide +kernel⟩
set_option maxRecDepth 100000 in
theorem yk_2 : am_yok am_y 2 := ⟨rfl, rfl, Nat.le_of_ble_eq_true rfl, ⟨by decide +kernel, by decide +kernel⟩, by decide +kernel⟩
set_option maxRecDepth 100000 in
theorem yk_3 : am_yok am_y 3 := ⟨rfl, rfl, Nat.le_of_ble_eq_true rfl, ⟨by decide +kernel, by decide +kernel⟩, by decide +kernel⟩
set_option maxRecDepth 100000 in
theorem yk_4 : am_yok am_y 4 := ⟨rfl, rfl, Nat.le_of_ble_eq_true rfl, ⟨by decide +kernel, by decide +kernel⟩, by decide +kernel⟩
set_option maxRecDepth 100000 in
theorem yk_5 : am_yok am_y 5 := ⟨rfl, rfl, Nat.le_of_ble_eq_true rfl, ⟨by decide +kernel, by decide +kernel⟩, by decide +kernel⟩
set_option maxRecDepth 100000 in
theorem yk_6 : am_yok am_y 6 := ⟨rfl, rfl, Nat.le_of_ble_eq_true rfl, ⟨by decide +kernel, by decide +kernel⟩, by decide +kernel⟩
set_option maxRecDepth 100000 in
theorem yk_7 : am_yok am_y 7 := ⟨rfl, rfl, Nat.le_of_ble_eq_true rfl, ⟨by decide +kernel, by decide +kernel⟩, by decide +kernel⟩
set_option maxRecDepth 100000 in
theorem yk_8 : am_yok am_y 8 := ⟨rfl, rfl, Nat.le_of_ble_eq_true rfl, ⟨by decide +kernel, by decide +kernel⟩, by decide +kernel⟩
set_option maxRecDepth 100000 in
theorem yk_9 : am_yok am_y 9 := ⟨rfl, rfl, Nat.le_of_ble_eq_true rfl, ⟨by decide +kernel, by decide +kernel⟩, by decide +kernel⟩
set_option maxRecDepth 100000 in
theorem yk_10 : am_yok am_y 10 := ⟨rfl, rfl, Nat.le_of_ble_eq_true rfl, ⟨by decide +kernel, by decide +kernel⟩, by decide +kernel⟩
set_option maxRecDepth 100000 in
theorem yk_11 : am_yok am_y 11 := ⟨rfl, rfl, Nat.le_of_ble_eq_true rfl, ⟨by decide +kernel, by decide +kernel⟩, by decide +kernel⟩
set_option maxRecDepth 100000 in
theorem yk_12 : am_yok am_y 12 := ⟨rfl, rfl, Nat.le_of_ble_eq_true rfl, ⟨by decide +kernel, by decide +kernel⟩, by decide +kernel⟩
set_option maxRecDepth 100000 in
theorem yk_13 : am_yok am_y 13 := ⟨rfl, rfl, Nat.le_of_ble_eq_true rfl, ⟨by decide +kernel, by decide +kernel⟩, by decide +kernel⟩
set_option maxRecDepth 100000 in
theorem yk_14 : am_yok am_y 14 := ⟨rfl, rfl, Nat.le_of_ble_eq_true rfl, ⟨by decide +kernel, by decide +kernel⟩, by decide +kernel⟩
set_option maxRecDepth 100000 in
theorem yk_15 : am_yok am_y 15 := ⟨rfl, rfl, Nat.le_of_ble_eq_true rfl, ⟨by decide +kernel, by decide +kernel⟩, by decide +kernel⟩
set_option maxRecDepth 100000 in
theorem yk_16 : am_yok am_y 16 := ⟨rfl, rfl, Nat.le_of_ble_eq_true rfl, ⟨by decide +kernel, by decide +kernel⟩, by decide +kernel⟩
set_option maxRecDepth 100000 in
theorem yk_17 : am_yok am_y 17 := ⟨rfl, rfl, Nat.le_of_ble_eq_true rfl, ⟨by decide +kernel, by decide +kernel⟩, by decide +kernel⟩
set_option maxRecDepth 100000 in
theorem yk_18 : am_yok am_y 18 := ⟨rfl, rfl, Nat.le_of_ble_eq_true rfl, ⟨by decide +kernel, by decide +kernel⟩, by decide +kernel⟩
set_option maxRecDepth 100000 in
theorem yk_19 : am_yok am_y 19 := ⟨rfl, rfl, Nat.le_of_ble_eq_true rfl, ⟨by decide +kernel, by decide +kernel⟩, by decide +kernel⟩
set_option maxRecDepth 100000 in
theorem yk_20 : am_yok am_y 20 := ⟨rfl, rfl, Nat.le_of_ble_eq_true rfl, ⟨by decide +kernel, by decide +kernel⟩, by decide +kernel⟩
set_option maxRecDepth 100000 in
theorem yk_21 : am_yok am_y 21 := ⟨rfl, rfl, Nat.le_of_ble_eq_true rfl, ⟨by decide +kernel, by decide +kernel⟩, by decide +kernel⟩
set_option maxRecDepth 100000 in
theorem yk_22 : am_yok am_y 22 := ⟨rfl, rfl, Nat.le_of_ble_eq_true rfl, ⟨by decide +kernel, by decide +kernel⟩, by decide +kernel⟩
set_option maxRecDepth 100000 in
theorem yk_23 : am_yok am_y 23 := ⟨rfl, rfl, Nat.le_of_ble_eq_true rfl, ⟨by decide +kernel, by decide +kernel⟩, by decide +kernel⟩
set_option maxRecDepth 100000 in
theorem yk_24 : am_yok am_y 24 := ⟨rfl, rfl, Nat.le_of_ble_eq_true rfl, ⟨by decide +kernel, by decide +kernel⟩, by decide +kernel⟩
set_option maxRecDepth 100000 in
theorem yk_25 : am_yok am_y 25 := ⟨rfl, rfl, Nat.le_of_ble_eq_true rfl, ⟨by decide +kernel, by decide +kernel⟩, by decide +kernel⟩
set_option maxRecDepth 100000 in
theorem yk_26 : am_yok am_y 26 := ⟨rfl, rfl, Nat.le_of_ble_eq_true rfl, ⟨by decide +kernel, by decide +kernel⟩, by decide +kernel⟩
set_option maxRecDepth 100000 in
theorem yk_27 : am_yok am_y 27 := ⟨rfl, rfl, Nat.le_of_ble_eq_true rfl, ⟨by decide +kernel, by decide +kernel⟩, by decide +kernel⟩
set_option maxRecDepth 100000 in
theorem yk_28 : am_yok am_y 28 := ⟨rfl, rfl, Nat.le_of_ble_eq_true rfl, ⟨by decide +kernel, by decide +kernel⟩, by decide +kernel⟩
set_option maxRecDepth 100000 in
theorem yk_29 : am_yok am_y 29 := ⟨rfl, rfl, Nat.le_of_ble_eq_true rfl, ⟨by decide +kernel, by decide +kernel⟩, by decide +kernel⟩
set_option maxRecDepth 100000 in
theorem yk_30 : am_yok am_y 30 := ⟨rfl, rfl, Nat.le_of_ble_eq_true rfl, ⟨by decide +kernel, by decide +kernel⟩, by decide +kernel⟩
set_option maxRecDepth 100000 in
theorem yk_31 : am_yok am_y 31 := ⟨rfl, rfl, Nat.le_of_ble_eq_true rfl, ⟨by decide +kernel, by decide +kernel⟩, by decide +kernel⟩
set_option maxRecDepth 100000 in
theorem yk_32 : am_yok am_y 32 := ⟨rfl, rfl, Nat.le_of_ble_eq_true rfl, ⟨by decide +kernel, by decide +kernel⟩, by decide +kernel⟩
set_option maxRecDepth 100000 in
theorem yk_33 : am_yok am_y 33 := ⟨rfl, rfl, Nat.le_of_ble_eq_true rfl, ⟨by decide +kernel, by decide +kernel⟩, by decide +kernel⟩
set_option maxRecDepth 100000 in
theorem yk_34 : am_yok am_y 34 := ⟨rfl, rfl, Nat.le_of_ble_eq_true rfl, ⟨by decide +kernel, by decide +kernel⟩, by decide +kernel⟩
set_option maxRecDepth 100000 in
theorem yk_35 : am_yok am_y 35 := ⟨rfl, rfl, Nat.le_of_ble_eq_true rfl, ⟨by decide +kernel, by decide +kernel⟩, by decide +kernel⟩
set_option maxRecDepth 100000 in
theorem yk_36 : am_yok am_y 36 := ⟨rfl, rfl, Nat.le_of_ble_eq_true rfl, ⟨by decide +kernel, by decide +kernel⟩, by decide +kernel⟩
set_option maxRecDepth 100000 in
theorem yk_37 : am_yok am_y 37 := ⟨rfl, rfl, Nat.le_of_ble_eq_true rfl, ⟨by decide +kernel, by decide +kernel⟩, by decide +kernel⟩
set_option maxRecDepth 100000 in
theorem yk_38 : am_yok am_y 38 := ⟨rfl, rfl, Nat.le_of_ble_eq_true rfl, ⟨by decide +kernel, by decide +kernel⟩, by decide +kernel⟩
set_option maxRecDepth 100000 in
theorem yk_39 : am_yok am_y 39 := ⟨rfl, rfl, Nat.le_of_ble_eq_true rfl, ⟨by decide +kernel, by decide +kernel⟩, by decide +kernel⟩
set_option maxRecDepth 100000 in
theorem yk_40 : am_yok am_y 40 := ⟨rfl, rfl, Nat.le_of_ble_eq_true rfl, ⟨by decide +kernel, by decide +kernel⟩, by decide +kernel⟩
set_option maxRecDepth 100000 in
theorem yk_41 : am_yok am_y 41 := ⟨rfl, rfl, Nat.le_of_ble_eq_true rfl, ⟨by decide +kernel, by decide +kernel⟩, by decide +kernel⟩
set_option maxRecDepth 100000 in
theorem yk_42 : am_yok am_y 42 := ⟨rfl, rfl, Nat.le_of_ble_eq_true rfl, ⟨by decide +kernel, by decide +kernel⟩, by decide +kernel⟩
set_option maxRecDepth 100000 in
theorem yk_43 : am_yok am_y 43 := ⟨rfl, rfl, Nat.le_of_ble_eq_true rfl, ⟨by decide +kernel, by decide +kernel⟩, by decide +kernel⟩
set_option maxRecDepth 100000 in
theorem yk_44 : am_yok am_y 44 := ⟨rfl, rfl, Nat.le_of_ble_eq_true rfl, ⟨by decide +kernel, by decide +kernel⟩, by decide +kernel⟩
set_option maxRecDepth 100000 in
theorem yk_45 : am_yok am_y 45 := ⟨rfl, rfl, Nat.le_of_ble_eq_true rfl, ⟨by decide +kernel, by decide +kernel⟩, by decide +kernel⟩
set_option maxRecDepth 100000 in
theorem yk_46 : am_yok am_y 46 := ⟨rfl, rfl, Nat.le_of_ble_eq_true rfl, ⟨by decide +kernel, by decide +kernel⟩, by decide +kernel⟩
set_option maxRecDepth 100000 in
theorem yk_47 : am_yok am_y 47 := ⟨rfl, rfl, Nat.le_of_ble_eq_true rfl, ⟨by decide +kernel, by decide +kernel⟩, by decide +kernel⟩
set_option maxRecDepth 100000 in
theorem yk_48 : am_yok am_y 48 := ⟨rfl, rfl, Nat.le_of_ble_eq_true rfl, ⟨by decide +kernel, by decide +kernel⟩, by decide +kernel⟩
set_option maxRecDepth 100000 in
theorem yk_49 : am_yok am_y 49 := ⟨rfl, rfl, Nat.le_of_ble_eq_true rfl, ⟨by decide +kernel, by decide +kernel⟩, by decide +kernel⟩
set_option maxRecDepth 100000 in
theorem yk_50 : am_yok am_y 50 := ⟨rfl, rfl, Nat.le_of_ble_eq_true rfl, ⟨by decide +kernel, by decide +kernel⟩, by decide +kernel⟩
set_option maxRecDepth 100000 in
theorem yk_51 : am_yok am_y 51 := ⟨rfl, rfl, Nat.le_of_ble_eq_true rfl, ⟨by decide +kernel, by decide +kernel⟩, by decide +kernel⟩
set_option maxRecDepth 100000 in
theorem yk_52 : am_yok am_y 52 := ⟨rfl, rfl, Nat.le_of_ble_eq_true rfl, ⟨by decide +kernel, by decide +kernel⟩, by decide +kernel⟩
set_option maxRecDepth 100000 in
theorem yk_53 : am_yok am_y 53 := ⟨rfl, rfl, Nat.le_of_ble_eq_true rfl, ⟨by decide +kernel, by decide +kernel⟩, by decide +kernel⟩
set_option maxRecDepth 100000 in
theorem yk_54 : am_yok am_y 54 := ⟨rfl, rfl, Nat.le_of_ble_eq_true rfl, ⟨by decide +kernel, by decide +kernel⟩, by decide +kernel⟩
set_option maxRecDepth 100000 in
theorem yk_55 : am_yok am_y 55 := ⟨rfl, rfl, Nat.le_of_ble_eq_true rfl, ⟨by decide +kernel, by decide +kernel⟩, by decide +kernel⟩
set_option maxRecDepth 100000 in
theorem yk_56 : am_yok am_y 56 := ⟨rfl, rfl, Nat.le_of_ble_eq_true rfl, ⟨by decide +kernel, by decide +kernel⟩, by decide +kernel⟩
set_option maxRecDepth 100000 in
theorem yk_57 : am_yok am_y 57 := ⟨rfl, rfl, Nat.le_of_ble_eq_true rfl, ⟨by decide +kernel, by decide +kernel⟩, by decide +kernel⟩
set_option maxRecDepth 100000 in
theorem yk_58 : am_yok am_y 58 := ⟨rfl, rfl, Nat.le_of_ble_eq_true rfl, ⟨by decide +kernel, by decide +kernel⟩, by decide +kernel⟩
set_option maxRecDepth 100000 in
theorem yk_59 : am_yok am_y 59 := ⟨rfl, rfl, Nat.le_of_ble_eq_true rfl, ⟨by decide +kernel, by decide +kernel⟩, by decide +kernel⟩
set_option maxRecDepth 100000 in
theorem yk_60 : am_yok am_y 60 := ⟨rfl, rfl, Nat.le_of_ble_eq_true rfl, ⟨by decide +kernel, by decide +kernel⟩, by decide +kernel⟩
set_option maxRecDepth 100000 in
theorem yk_61 : am_yok am_y 61 := ⟨rfl, rfl, Nat.le_of_ble_eq_true rfl, ⟨by decide +kernel, by decide +kernel⟩, by decide +kernel⟩
set_option maxRecDepth 100000 in
theorem yk_62 : am_yok am_y 62 := ⟨rfl, rfl, Nat.le_of_ble_eq_true rfl, ⟨by decide +kernel, by decide +kernel⟩, by decide +kernel⟩
set_option maxRecDepth 100000 in
theorem yk_63 : am_yok am_y 63 := ⟨rfl, rfl, Nat.le_of_ble_eq_true rfl, ⟨by decide +kernel, by decide +kernel⟩, by decide +kernel⟩
set_option maxRecDepth 100000 in
theorem yk_64 : am_yok am_y 64 := ⟨rfl, rfl, Nat.le_of_ble_eq_true rfl, ⟨by decide +kernel, by decide +kernel⟩, by decide +kernel⟩
set_option maxRecDepth 100000 in
theorem yk_65 : am_yok am_y 65 := ⟨rfl, rfl, Nat.le_of_ble_eq_true rfl, ⟨by decide +kernel, by decide +kernel⟩, by decide +kernel⟩
set_option maxRecDepth 100000 in
theorem yk_66 : am_yok am_y 66 := ⟨rfl, rfl, Nat.le_of_ble_eq_true rfl, ⟨by decide +kernel, by decide +kernel⟩, by decide +kernel⟩
set_option maxRecDepth 100000 in
theorem yk_67 : am_yok am_y 67 := ⟨rfl, rfl, Nat.le_of_ble_eq_true rfl, ⟨by decide +kernel, by decide +kernel⟩, by decide +kernel⟩
set_option maxRecDepth 100000 in
theorem yk_68 : am_yok am_y 68 := ⟨rfl, rfl, Nat.le_of_ble_eq_true rfl, ⟨by decide +kernel, by decide +kernel⟩, by decide +kernel⟩
set_option maxRecDepth 100000 in
theorem yk_69 : am_yok am_y 69 := ⟨rfl, rfl, Nat.le_of_ble_eq_true rfl, ⟨by decide +kernel, by decide +kernel⟩, by decide +kernel⟩
set_option maxRecDepth 100000 in
theorem yk_70 : am_yok am_y 70 := ⟨rfl, rfl, Nat.le_of_ble_eq_true rfl, ⟨by decide +kernel, by decide +kernel⟩, by decide +kernel⟩
set_option maxRecDepth 100000 in
theorem yk_71 : am_yok am_y 71 := ⟨rfl, rfl, Nat.le_of_ble_eq_true rfl, ⟨by decide +kernel, by decide +kernel⟩, by decide +kernel⟩
set_option maxRecDepth 100000 in
theorem yk_72 : am_yok am_y 72 := ⟨rfl, rfl, Nat.le_of_ble_eq_true rfl, ⟨by decide +kernel, by decide +kernel⟩, by decide +kernel⟩
set_option maxRecDepth 100000 in
theorem yk_73 : am_yok am_y 73 := ⟨rfl, rfl, Nat.le_of_ble_eq_true rfl, ⟨by decide +kernel, by decide +kernel⟩, by decide +kernel⟩
set_option maxRecDepth 100000 in
theorem yk_74 : am_yok am_y 74 := ⟨rfl, rfl, Nat.le_of_ble_eq_true rfl, ⟨by decide +kernel, by decide +kernel⟩, by decide +kernel⟩
set_option maxRecDepth 100000 in
theorem yk_75 : am_yok am_y 75 := ⟨rfl, rfl, Nat.le_of_ble_eq_true rfl, ⟨by decide +kernel, by decide +kernel⟩, by decide +kernel⟩
set_option maxRecDepth 100000 in
theorem yk_76 : am_yok am_y 76 := ⟨rfl, rfl, Nat.le_of_ble_eq_true rfl, ⟨by decide +kernel, by decide +kernel⟩, by decide +kernel⟩
set_option maxRecDepth 100000 in
theorem yk_77 : am_yok am_y 77 := ⟨rfl, rfl, Nat.le_of_ble_eq_true rfl, ⟨by decide +kernel, by decide +kernel⟩, by decide +kernel⟩
set_option maxRecDepth 100000 in
theorem yk_78 : am_yok am_y 78 := ⟨rfl, rfl, Nat.le_of_ble_eq_true rfl, ⟨by decide +kernel, by decide +kernel⟩, by decide +kernel⟩
set_option maxRecDepth 100000 in
theorem yk_79 : am_yok am_y 79 := ⟨rfl, rfl, Nat.le_of_ble_eq_true rfl, ⟨by decide +kernel, by decide +kernel⟩, by decide +kernel⟩
set_option maxRecDepth 100000 in
theorem yk_80 : am_yok am_y 80 := ⟨rfl, rfl, Nat.le_of_ble_eq_true rfl, ⟨by decide +kernel, by decide +kernel⟩, by decide +kernel⟩
set_option maxRecDepth 100000 in
theorem yk_81 : am_yok am_y 81 := ⟨rfl, rfl, Nat.le_of_ble_eq_true rfl, ⟨by decide +kernel, by decide +kernel⟩, by decide +kernel⟩
set_option maxRecDepth 100000 in
theorem yk_82 : am_yok am_y 82 := ⟨rfl, rfl, Nat.le_of_ble_eq_true rfl, ⟨by decide +kernel, by decide +kernel⟩, by decide +kernel⟩
set_option maxRecDepth 100000 in
theorem yk_83 : am_yok am_y 83 := ⟨rfl, rfl, Nat.le_of_ble_eq_true rfl, ⟨by decide +kernel, by decide +kernel⟩, by decide +kernel⟩
set_option maxRecDepth 100000 in
theorem yk_84 : am_yok am_y 84 := ⟨rfl, rfl, Nat.le_of_ble_eq_true rfl, ⟨by decide +kernel, by decide +kernel⟩, by decide +kernel⟩
set_option maxRecDepth 100000 in
theorem yk_85 : am_yok am_y 85 := ⟨rfl, rfl, Nat.le_of_ble_eq_true rfl, ⟨by decide +kernel, by decide +kernel⟩, by decide +kernel⟩
set_option maxRecDepth 100000 in
theorem yk_86 : am_yok am_y 86 := ⟨rfl, rfl, Nat.le_of_ble_eq_true rfl, ⟨by decide +kernel, by decide +kernel⟩, by decide +kernel⟩
set_option maxRecDepth 100000 in
theorem yk_87 : am_yok am_y 87 := ⟨rfl, rfl, Nat.le_of_ble_eq_true rfl, ⟨by decide +kernel, by decide +kernel⟩, by decide +kernel⟩
set_option maxRecDepth 100000 in
theorem yk_88 : am_yok am_y 88 := ⟨rfl, rfl, Nat.le_of_ble_eq_true rfl, ⟨by decide +kernel, by decide +kernel⟩, by decide +kernel⟩
set_option maxRecDepth 100000 in
theorem yk_89 : am_yok am_y 89 := ⟨rfl, rfl, Nat.le_of_ble_eq_true rfl, ⟨by decide +kernel, by decide +kernel⟩, by decide +kernel⟩
set_option maxRecDepth 100000 in
theorem yk_90 : am_yok am_y 90 := ⟨rfl, rfl, Nat.le_of_ble_eq_true rfl, ⟨by decide +kernel, by decide +kernel⟩, by decide +kernel⟩
set_option maxRecDepth 100000 in
theorem yk_91 : am_yok am_y 91 := ⟨rfl, rfl, Nat.le_of_ble_eq_true rfl, ⟨by decide +kernel, by decide +kernel⟩, by decide +kernel⟩
set_option maxRecDepth 100000 in
theorem yk_92 : am_yok am_y 92 := ⟨rfl, rfl, Nat.le_of_ble_eq_true rfl, ⟨by decide +kernel, by decide +kernel⟩, by decide +kernel⟩
set_option maxRecDepth 100000 in
theorem yk_93 : am_yok am_y 93 := ⟨rfl, rfl, Nat.le_of_ble_eq_true rfl, ⟨by decide +kernel, by decide +kernel⟩, by decide +kernel⟩
set_option maxRecDepth 100000 in
theorem yk_94 : am_yok am_y 94 := ⟨rfl, rfl, Nat.le_of_ble_eq_true rfl, ⟨by decide +kernel, by decide +kernel⟩, by decide +kernel⟩
set_option maxRecDepth 100000 in
theorem yk_95 : am_yok am_y 95 := ⟨rfl, rfl, Nat.le_of_ble_eq_true rfl, ⟨by decide +kernel, by decide +kernel⟩, by decide +kernel⟩
set_option maxRecDepth 100000 in
theorem yk_96 : am_yok am_y 96 := ⟨rfl, rfl, Nat.le_of_ble_eq_true rfl, ⟨by decide +kernel, by decide +kernel⟩, by decide +kernel⟩
set_option maxRecDepth 100000 in
theorem yk_97 : am_yok am_y 97 := ⟨rfl, rfl, Nat.le_of_ble_eq_true rfl, ⟨by decide +kernel, by decide +kernel⟩, by decide +kernel⟩
set_option maxRecDepth 100000 in
theorem yk_98 : am_yok am_y 98 := ⟨rfl, rfl, Nat.le_of_ble_eq_true rfl, ⟨by decide +kernel, by decide +kernel⟩, by decide +kernel⟩
set_option maxRecDepth 100000 in
theorem yk_99 : am_yok am_y 99 := ⟨rfl, rfl, Nat.le_of_ble_eq_true rfl, ⟨by decide +kernel, by decide +kernel⟩, by decide +kernel⟩
set_option maxRecDepth 100000 in
theorem yk_100 : am_yok am_y 100 := ⟨rfl, rfl, Nat.le_of_ble_eq_true rfl, ⟨by decide +kernel, by decide +kernel⟩, by decide +kernel⟩
set_option maxRecDepth 100000 in
theorem yk_101 : am_yok am_y 101 := ⟨rfl, rfl, Nat.le_of_ble_eq_true rfl, ⟨by decide +kernel, by decide +kernel⟩, by decide +kernel⟩
set_option maxRecDepth 100000 in
theorem yk_102 : am_yok am_y 102 := ⟨rfl, rfl, Nat.le_of_ble_eq_true rfl, ⟨by decide +kernel, by decide +kernel⟩, by decide +kernel⟩
set_option maxRecDepth 100000 in
theorem yk_103 : am_yok am_y 103 := ⟨rfl, rfl, Nat.le_of_ble_eq_true rfl, ⟨by decide +kernel, by decide +kernel⟩, by decide +kernel⟩
set_option maxRecDepth 100000 in
theorem yk_104 : am_yok am_y 104 := ⟨rfl, rfl, Nat.le_of_ble_eq_true rfl, ⟨by decide +kernel, by decide +kernel⟩, by decide +kernel⟩
set_option maxRecDepth 100000 in
theorem yk_105 : am_yok am_y 105 := ⟨rfl, rfl, Nat.le_of_ble_eq_true rfl, ⟨by decide +kernel, by decide +kernel⟩, by decide +kernel⟩
set_option maxRecDepth 100000 in
theorem yk_106 : am_yok am_y 106 := ⟨rfl, rfl, Nat.le_of_ble_eq_true rfl, ⟨by decide +kernel, by decide +kernel⟩, by decide +kernel⟩
set_option maxRecDepth 100000 in
theorem yk_107 : am_yok am_y 107 := ⟨rfl, rfl, Nat.le_of_ble_eq_true rfl, ⟨by decide +kernel, by decide +kernel⟩, by decide +kernel⟩
set_option maxRecDepth 100000 in
theorem yk_108 : am_yok am_y 108 := ⟨rfl, rfl, Nat.le_of_ble_eq_true rfl, ⟨by decide +kernel, by decide +kernel⟩, by decide +kernel⟩
set_option maxRecDepth 100000 in
theorem yk_109 : am_yok am_y 109 := ⟨rfl, rfl, Nat.le_of_ble_eq_true rfl, ⟨by decide +kernel, by decide +kernel⟩, by decide +kernel⟩
set_option maxRecDepth 100000 in
theorem yk_110 : am_yok am_y 110 := ⟨rfl, rfl, Nat.le_of_ble_eq_true rfl, ⟨by decide +kernel, by decide +kernel⟩, by decide +kernel⟩
set_option maxRecDepth 100000 in
theorem yk_111 : am_yok am_y 111 := ⟨rfl, rfl, Nat.le_of_ble_eq_true rfl, ⟨by decide +kernel, by decide +kernel⟩, by decide +kernel⟩
set_option maxRecDepth 100000 in
theorem yk_112 : am_yok am_y 112 := ⟨rfl, rfl, Nat.le_of_ble_eq_true rfl, ⟨by decide +kernel, by decide +kernel⟩, by decide +kernel⟩
set_option maxRecDepth 100000 in
theorem yk_113 : am_yok am_y 113 := ⟨rfl, rfl, Nat.le_of_ble_eq_true rfl, ⟨by decide +kernel, by decide +kernel⟩, by decide +kernel⟩
set_option maxRecDepth 100000 in
theorem yk_114 : am_yok am_y 114 := ⟨rfl, rfl, Nat.le_of_ble_eq_true rfl, ⟨by decide +kernel, by decide +kernel⟩, by decide +kernel⟩
set_option maxRecDepth 100000 in
theorem yk_115 : am_yok am_y 115 := ⟨rfl, rfl, Nat.le_of_ble_eq_true rfl, ⟨by decide +kernel, by decide +kernel⟩, by decide +kernel⟩
set_option maxRecDepth 100000 in
theorem yk_116 : am_yok am_y 116 := ⟨rfl, rfl, Nat.le_of_ble_eq_true rfl, ⟨by decide +kernel, by decide +kernel⟩, by decide +kernel⟩
set_option maxRecDepth 100000 in
theorem yk_117 : am_yok am_y 117 := ⟨rfl, rfl, Nat.le_of_ble_eq_true rfl, ⟨by decide +kernel, by decide +kernel⟩, by decide +kernel⟩
set_option maxRecDepth 100000 in
theorem yk_118 : am_yok am_y 118 := ⟨rfl, rfl, Nat.le_of_ble_eq_true rfl, ⟨by decide +kernel, by decide +kernel⟩, by decide +kernel⟩
set_option maxRecDepth 100000 in
theorem yk_119 : am_yok am_y 119 := ⟨rfl, rfl, Nat.le_of_ble_eq_true rfl, ⟨by decide +kernel, by decide +kernel⟩, by decide +kernel⟩
set_option maxRecDepth 100000 in
theorem yk_120 : am_yok am_y 120 := ⟨rfl, rfl, Nat.le_of_ble_eq_true rfl, ⟨by decide +kernel, by decide +kernel⟩, by decide +kernel⟩
set_option maxRecDepth 100000 in
theorem yk_121 : am_yok am_y 121 := ⟨rfl, rfl, Nat.le_of_ble_eq_true rfl, ⟨by decide +kernel, by decide +kernel⟩, by decide +kernel⟩
set_option maxRecDepth 100000 in
theorem yk_122 : am_yok am_y 122 := ⟨rfl, rfl, Nat.le_of_ble_eq_true rfl, ⟨by decide +kernel, by decide +kernel⟩, by decide +kernel⟩
set_option maxRecDepth 100000 in
theorem yk_123 : am_yok am_y 123 := ⟨rfl, rfl, Nat.le_of_ble_eq_true rfl, ⟨by decide +kernel, by decide +kernel⟩, by decide +kernel⟩
set_option maxRecDepth 100000 in
theorem yk_124 : am_yok am_y 124 := ⟨rfl, rfl, Nat.le_of_ble_eq_true rfl, ⟨by decide +kernel, by decide +kernel⟩, by decide +kernel⟩
set_option maxRecDepth 100000 in
theorem yk_125 : am_yok am_y 125 := ⟨rfl, rfl, Nat.le_of_ble_eq_true rfl, ⟨by decide +kernel, by decide +kernel⟩, by decide +kernel⟩
set_option maxRecDepth 100000 in
theorem yk_126 : am_yok am_y 126 := ⟨rfl, rfl, Nat.le_of_ble_eq_true rfl, ⟨by decide +kernel, by decide +kernel⟩, by decide +kernel⟩
set_option maxRecDepth 100000 in
theorem yk_127 : am_yok am_y 127 := ⟨rfl, rfl, Nat.le_of_ble_eq_true rfl, ⟨by decide +kernel, by decide +kernel⟩, by decide +kernel⟩
set_option maxRecDepth 100000 in
theorem yk_128 : am_yok am_y 128 := ⟨rfl, rfl, Nat.le_of_ble_eq_true rfl, ⟨by decide +kernel, by decide +kernel⟩, by decide +kernel⟩
set_option maxRecDepth 100000 in
theorem yk_129 : am_yok am_y 129 := ⟨rfl, rfl, Nat.le_of_ble_eq_true rfl, ⟨by decide +kernel, by decide +kernel⟩, by decide +kernel⟩
set_option maxRecDepth 100000 in
theorem yk_130 : am_yok am_y 130 := ⟨rfl, rfl, Nat.le_of_ble_eq_true rfl, ⟨by decide +kernel, by decide +kernel⟩, by decide +kernel⟩
set_option maxRecDepth 100000 in
theorem yk_131 : am_yok am_y 131 := ⟨rfl, rfl, Nat.le_of_ble_eq_true rfl, ⟨by decide +kernel, by decide +kernel⟩, by decide +kernel⟩
set_option maxRecDepth 100000 in
theorem yk_132 : am_yok am_y 132 := ⟨rfl, rfl, Nat.le_of_ble_eq_true rfl, ⟨by decide +kernel, by decide +kernel⟩, by decide +kernel⟩
set_option maxRecDepth 100000 in
theorem yk_133 : am_yok am_y 133 := ⟨rfl, rfl, Nat.le_of_ble_eq_true rfl, ⟨by decide +kernel, by decide +kernel⟩, by decide +kernel⟩
set_option maxRecDepth 100000 in
theorem yk_134 : am_yok am_y 134 := ⟨rfl, rfl, Nat.le_of_ble_eq_true rfl, ⟨by decide +kernel, by decide +kernel⟩, by decide +kernel⟩
set_option maxRecDepth 100000 in
theorem yk_135 : am_yok am_y 135 := ⟨rfl, rfl, Nat.le_of_ble_eq_true rfl, ⟨by decide +kernel, by decide +kernel⟩, by decide +kernel⟩
set_option maxRecDepth 100000 in
theorem yk_136 : am_yok am_y 136 := ⟨rfl, rfl, Nat.le_of_ble_eq_true rfl, ⟨by decide +kernel, by decide +kernel⟩, by decide +kernel⟩
set_option maxRecDepth 100000 in
theorem yk_137 : am_yok am_y 137 := ⟨rfl, rfl, Nat.le_of_ble_eq_true rfl, ⟨by decide +kernel, by decide +kernel⟩, by decide +kernel⟩
set_option maxRecDepth 100000 in
theorem yk_138 : am_yok am_y 138 := ⟨rfl, rfl, Nat.le_of_ble_eq_true rfl, ⟨by decide +kernel, by decide +kernel⟩, by decide +kernel⟩
set_option maxRecDepth 100000 in
theorem yk_139 : am_yok am_y 139 := ⟨rfl, rfl, Nat.le_of_ble_eq_true rfl, ⟨by decide +kernel, by decide +kernel⟩, by decide +kernel⟩
set_option maxRecDepth 100000 in
theorem yk_140 : am_yok am_y 140 := ⟨rfl, rfl, Nat.le_of_ble_eq_true rfl, ⟨by decide +kernel, by decide +kernel⟩, by decide +kernel⟩
set_option maxRecDepth 100000 in
theorem yk_141 : am_yok am_y 141 := ⟨rfl, rfl, Nat.le_of_ble_eq_true rfl, ⟨by decide +kernel, by decide +kernel⟩, by decide +kernel⟩
set_option maxRecDepth 100000 in
theorem yk_142 : am_yok am_y 142 := ⟨rfl, rfl, Nat.le_of_ble_eq_true rfl, ⟨by decide +kernel, by decide +kernel⟩, by decide +kernel⟩
set_option maxRecDepth 100000 in
theorem yk_143 : am_yok am_y 143 := ⟨rfl, rfl, Nat.le_of_ble_eq_true rfl, ⟨by decide +kernel, by decide +kernel⟩, by decide +kernel⟩
set_option maxRecDepth 100000 in
theorem yk_144 : am_yok am_y 144 := ⟨rfl, rfl, Nat.le_of_ble_eq_true rfl, ⟨by decide +kernel, by decide +kernel⟩, by decide +kernel⟩
set_option maxRecDepth 100000 in
theorem yk_145 : am_yok am_y 145 := ⟨rfl, rfl, Nat.le_of_ble_eq_true rfl, ⟨by decide +kernel, by decide +kernel⟩, by decide +kernel⟩
set_option maxRecDepth 100000 in
theorem yk_146 : am_yok am_y 146 := ⟨rfl, rfl, Nat.le_of_ble_eq_true rfl, ⟨by decide +kernel, by decide +kernel⟩, by decide +kernel⟩
set_option maxRecDepth 100000 in
theorem yk_147 : am_yok am_y 147 := ⟨rfl, rfl, Nat.le_of_ble_eq_true rfl, ⟨by decide +kernel, by decide +kernel⟩, by decide +kernel⟩
set_option maxRecDepth 100000 in
theorem yk_148 : am_yok am_y 148 := ⟨rfl, rfl, Nat.le_of_ble_eq_true rfl, ⟨by decide +kernel, by decide +kernel⟩, by decide +kernel⟩
set_option maxRecDepth 100000 in
theorem yk_149 : am_yok am_y 149 := ⟨rfl, rfl, Nat.le_of_ble_eq_true rfl, ⟨by decide +kernel, by decide +kernel⟩, by decide +kernel⟩
set_option maxRecDepth 100000 in
theorem yk_150 : am_yok am_y 150 := ⟨rfl, rfl, Nat.le_of_ble_eq_true rfl, ⟨by decide +kernel, by decide +kernel⟩, by decide +kernel⟩
set_option maxRecDepth 100000 in
theorem yk_151 : am_yok am_y 151 := ⟨rfl, rfl, Nat.le_of_ble_eq_true rfl, ⟨by decide +kernel, by decide +kernel⟩, by decide +kernel⟩
set_option maxRecDepth 100000 in
theorem yk_152 : am_yok am_y 152 := ⟨rfl, rfl, Nat.le_of_ble_eq_true rfl, ⟨by decide +kernel, by decide +kernel⟩, by decide +kernel⟩
set_option maxRecDepth 100000 in
theorem yk_153 : am_yok am_y 153 := ⟨rfl, rfl, Nat.le_of_ble_eq_true rfl, ⟨by decide +kernel, by decide +kernel⟩, by decide +kernel⟩
set_option maxRecDepth 100000 in
theorem yk_154 : am_yok am_y 154 := ⟨rfl, rfl, Nat.le_of_ble_eq_true rfl, ⟨by decide +kernel, by decide +kernel⟩, by decide +kernel⟩
set_option maxRecDepth 100000 in
theorem yk_155 : am_yok am_y 155 := ⟨rfl, rfl, Nat.le_of_ble_eq_true rfl, ⟨by decide +kernel, by decide +kernel⟩, by decide +kernel⟩
set_option maxRecDepth 100000 in
theorem yk_156 : am_yok am_y 156 := ⟨rfl, rfl, Nat.le_of_ble_eq_true rfl, ⟨by decide +kernel, by decide +kernel⟩, by decide +kernel⟩
set_option maxRecDepth 100000 in
theorem yk_157 : am_yok am_y 157 := ⟨rfl, rfl, Nat.le_of_ble_eq_true rfl, ⟨by decide +kernel, by decide +kernel⟩, by decide +kernel⟩
set_option maxRecDepth 100000 in
theorem yk_158 : am_yok am_y 158 := ⟨rfl, rfl, Nat.le_of_ble_eq_true rfl, ⟨by decide +kernel, by decide +kernel⟩, by decide +kernel⟩
set_option maxRecDepth 100000 in
theorem yk_159 : am_yok am_y 159 := ⟨rfl, rfl, Nat.le_of_ble_eq_true rfl, ⟨by decide +kernel, by decide +kernel⟩, by decide +kernel⟩
set_option maxRecDepth 100000 in
theorem yk_160 : am_yok am_y 160 := ⟨rfl, rfl, Nat.le_of_ble_eq_true rfl, ⟨by decide +kernel, by decide +kernel⟩, by decide +kernel⟩
set_option maxRecDepth 100000 in
theorem yk_161 : am_yok am_y 161 := ⟨rfl, rfl, Nat.le_of_ble_eq_true rfl, ⟨by decide +kernel, by decide +kernel⟩, by decide +kernel⟩
set_option maxRecDepth 100000 in
theorem yk_162 : am_yok am_y 162 := ⟨rfl, rfl, Nat.le_of_ble_eq_true rfl, ⟨by decide +kernel, by decide +kernel⟩, by decide +kernel⟩
set_option maxRecDepth 100000 in
theorem yk_163 : am_yok am_y 163 := ⟨rfl, rfl, Nat.le_of_ble_eq_true rfl, ⟨by decide +kernel, by decide +kernel⟩, by decide +kernel⟩
set_option maxRecDepth 100000 in
theorem yk_164 : am_yok am_y 164 := ⟨rfl, rfl, Nat.le_of_ble_eq_true rfl, ⟨by decide +kernel, by decide +kernel⟩, by decide +kernel⟩
set_option maxRecDepth 100000 in
theorem yk_165 : am_yok am_y 165 := ⟨rfl, rfl, Nat.le_of_ble_eq_true rfl, ⟨by decide +kernel, by decide +kernel⟩, by decide +kernel⟩
set_option maxRecDepth 100000 in
theorem yk_166 : am_yok am_y 166 := ⟨rfl, rfl, Nat.le_of_ble_eq_true rfl, ⟨by decide +kernel, by decide +kernel⟩, by decide +kernel⟩
set_option maxRecDepth 100000 in
theorem yk_167 : am_yok am_y 167 := ⟨rfl, rfl, Nat.le_of_ble_eq_true rfl, ⟨by decide +kernel, by decide +kernel⟩, by decide +kernel⟩
set_option maxRecDepth 100000 in
theorem yk_168 : am_yok am_y 168 := ⟨rfl, rfl, Nat.le_of_ble_eq_true rfl, ⟨by decide +kernel, by decide +kernel⟩, by decide +kernel⟩
set_option maxRecDepth 100000 in
theorem yk_169 : am_yok am_y 169 := ⟨rfl, rfl, Nat.le_of_ble_eq_true rfl, ⟨by decide +kernel, by decide +kernel⟩, by decide +kernel⟩
set_option maxRecDepth 100000 in
theorem yk_170 : am_yok am_y 170 := ⟨rfl, rfl, Nat.le_of_ble_eq_true rfl, ⟨by decide +kernel, by decide +kernel⟩, by decide +kernel⟩
set_option maxRecDepth 100000 in
theorem yk_171 : am_yok am_y 171 := ⟨rfl, rfl, Nat.le_of_ble_eq_true rfl, ⟨by decide +kernel, by decide +kernel⟩, by decide +kernel⟩
set_option maxRecDepth 100000 in
theorem yk_172 : am_yok am_y 172 := ⟨rfl, rfl, Nat.le_of_ble_eq_true rfl, ⟨by decide +kernel, by decide +kernel⟩, by decide +kernel⟩
set_option maxRecDepth 100000 in
theorem yk_173 : am_yok am_y 173 := ⟨rfl, rfl, Nat.le_of_ble_eq_true rfl, ⟨by decide +kernel, by decide +kernel⟩, by decide +kernel⟩
set_option maxRecDepth 100000 in
theorem yk_174 : am_yok am_y 174 := ⟨rfl, rfl, Nat.le_of_ble_eq_true rfl, ⟨by decide +kernel, by decide +kernel⟩, by decide +kernel⟩
set_option maxRecDepth 100000 in
theorem yk_175 : am_yok am_y 175 := ⟨rfl, rfl, Nat.le_of_ble_eq_true rfl, ⟨by decide +kernel, by decide +kernel⟩, by decide +kernel⟩
set_option maxRecDepth 100000 in
theorem yk_176 : am_yok am_y 176 := ⟨rfl, rfl, Nat.le_of_ble_eq_true rfl, ⟨by decide +kernel, by decide +kernel⟩, by decide +kernel⟩
set_option maxRecDepth 100000 in
theorem yk_177 : am_yok am_y 177 := ⟨rfl, rfl, Nat.le_of_ble_eq_true rfl, ⟨by decide +kernel, by decide +kernel⟩, by decide +kernel⟩
set_option maxRecDepth 100000 in
theorem yk_178 : am_yok am_y 178 := ⟨rfl, rfl, Nat.le_of_ble_eq_true rfl, ⟨by decide +kernel, by decide +kernel⟩, by decide +kernel⟩
set_option maxRecDepth 100000 in
theorem yk_179 : am_yok am_y 179 := ⟨rfl, rfl, Nat.le_of_ble_eq_true rfl, ⟨by decide +kernel, by decide +kernel⟩, by decide +kernel⟩
set_option maxRecDepth 100000 in
theorem yk_180 : am_yok am_y 180 := ⟨rfl, rfl, Nat.le_of_ble_eq_true rfl, ⟨by decide +kernel, by decide +kernel⟩, by decide +kernel⟩
set_option maxRecDepth 100000 in
theorem yk_181 : am_yok am_y 181 := ⟨rfl, rfl, Nat.le_of_ble_eq_true rfl, ⟨by decide +kernel, by decide +kernel⟩, by decide +kernel⟩
set_option maxRecDepth 100000 in
theorem yk_182 : am_yok am_y 182 := ⟨rfl, rfl, Nat.le_of_ble_eq_true rfl, ⟨by decide +kernel, by decide +kernel⟩, by decide +kernel⟩
set_option maxRecDepth 100000 in
theorem yk_183 : am_yok am_y 183 := ⟨rfl, rfl, Nat.le_of_ble_eq_true rfl, ⟨by decide +kernel, by decide +kernel⟩, by decide +kernel⟩
set_option maxRecDepth 100000 in
theorem yk_184 : am_yok am_y 184 := ⟨rfl, rfl, Nat.le_of_ble_eq_true rfl, ⟨by decide +kernel, by decide +kernel⟩, by decide +kernel⟩
set_option maxRecDepth 100000 in
theorem yk_185 : am_yok am_y 185 := ⟨rfl, rfl, Nat.le_of_ble_eq_true rfl, ⟨by decide +kernel, by decide +kernel⟩, by decide +kernel⟩
set_option maxRecDepth 100000 in
theorem yk_186 : am_yok am_y 186 := ⟨rfl, rfl, Nat.le_of_ble_eq_true rfl, ⟨by decide +kernel, by decide +kernel⟩, by decide +kernel⟩
set_option maxRecDepth 100000 in
theorem yk_187 : am_yok am_y 187 := ⟨rfl, rfl, Nat.le_of_ble_eq_true rfl, ⟨by decide +kernel, by decide +kernel⟩, by decide +kernel⟩
set_option maxRecDepth 100000 in
theorem yk_188 : am_yok am_y 188 := ⟨rfl, rfl, Nat.le_of_ble_eq_true rfl, ⟨by decide +kernel, by decide +kernel⟩, by decide +kernel⟩
set_option maxRecDepth 100000 in
theorem yk_189 : am_yok am_y 189 := ⟨rfl, rfl, Nat.le_of_ble_eq_true rfl, ⟨by decide +kernel, by decide +kernel⟩, by decide +kernel⟩
set_option maxRecDepth 100000 in
theorem yk_190 : am_yok am_y 190 := ⟨rfl, rfl, Nat.le_of_ble_eq_true rfl, ⟨by decide +kernel, by decide +kernel⟩, by decide +kernel⟩
set_option maxRecDepth 100000 in
theorem yk_191 : am_yok am_y 191 := ⟨rfl, rfl, Nat.le_of_ble_eq_true rfl, ⟨by decide +kernel, by decide +kernel⟩, by decide +kernel⟩
set_option maxRecDepth 100000 in
theorem yk_192 : am_yok am_y 192 := ⟨rfl, rfl, Nat.le_of_ble_eq_true rfl, ⟨by decide +kernel, by decide +kernel⟩, by decide +kernel⟩
set_option maxRecDepth 100000 in
theorem yk_193 : am_yok am_y 193 := ⟨rfl, rfl, Nat.le_of_ble_eq_true rfl, ⟨by decide +kernel, by decide +kernel⟩, by decide +kernel⟩
set_option maxRecDepth 100000 in
theorem yk_194 : am_yok am_y 194 := ⟨rfl, rfl, Nat.le_of_ble_eq_true rfl, ⟨by decide +kernel, by decide +kernel⟩, by decide +kernel⟩
set_option maxRecDepth 100000 in
theorem yk_195 : am_yok am_y 195 := ⟨rfl, rfl, Nat.le_of_ble_eq_true rfl, ⟨by decide +kernel, by decide +kernel⟩, by decide +kernel⟩
set_option maxRecDepth 100000 in
theorem yk_196 : am_yok am_y 196 := ⟨rfl, rfl, Nat.le_of_ble_eq_true rfl, ⟨by decide +kernel, by decide +kernel⟩, by decide +kernel⟩
set_option maxRecDepth 100000 in
theorem yk_197 : am_yok am_y 197 := ⟨rfl, rfl, Nat.le_of_ble_eq_true rfl, ⟨by decide +kernel, by decide +kernel⟩, by decide +kernel⟩
set_option maxRecDepth 100000 in
theorem yk_198 : am_yok am_y 198 := ⟨rfl, rfl, Nat.le_of_ble_eq_true rfl, ⟨by decide +kernel, by decide +kernel⟩, by decide +kernel⟩
set_option maxRecDepth 100000 in
theorem yk_199 : am_yok am_y 199 := ⟨rfl, rfl, Nat.le_of_ble_eq_true rfl, ⟨by decide +kernel, by decide +kernel⟩, by decide +kernel⟩
set_option maxRecDepth 100000 in
theorem yk_200 : am_yok am_y 200 := ⟨rfl, rfl, Nat.le_of_ble_eq_true rfl, ⟨by decide +kernel, by decide +kernel⟩, by decide +kernel⟩
set_option maxRecDepth 100000 in
theorem yk_201 : am_yok am_y 201 := ⟨rfl, rfl, Nat.le_of_ble_eq_true rfl, ⟨by decide +kernel, by decide +kernel⟩, by decide +kernel⟩
set_option maxRecDepth 100000 in
theorem yk_202 : am_yok am_y 202 := ⟨rfl, rfl, Nat.le_of_ble_eq_true rfl, ⟨by decide +kernel, by decide +kernel⟩, by decide +kernel⟩
set_option maxRecDepth 100000 in
theorem yk_203 : am_yok am_y 203 := ⟨rfl, rfl, Nat.le_of_ble_eq_true rfl, ⟨by decide +kernel, by decide +kernel⟩, by decide +kernel⟩
set_option maxRecDepth 100000 in
theorem yk_204 : am_yok am_y 204 := ⟨rfl, rfl, Nat.le_of_ble_eq_true rfl, ⟨by decide +kernel, by decide +kernel⟩, by decide +kernel⟩
set_option maxRecDepth 100000 in
theorem yk_205 : am_yok am_y 205 := ⟨rfl, rfl, Nat.le_of_ble_eq_true rfl, ⟨by decide +kernel, by decide +kernel⟩, by decide +kernel⟩
set_option maxRecDepth 100000 in
theorem yk_206 : am_yok am_y 206 := ⟨rfl, rfl, Nat.le_of_ble_eq_true rfl, ⟨by decide +kernel, by decide +kernel⟩, by decide +kernel⟩
set_option maxRecDepth 100000 in
theorem yk_207 : am_yok am_y 207 := ⟨rfl, rfl, Nat.le_of_ble_eq_true rfl, ⟨by decide +kernel, by decide +kernel⟩, by decide +kernel⟩
set_option maxRecDepth 100000 in
theorem yk_208 : am_yok am_y 208 := ⟨rfl, rfl, Nat.le_of_ble_eq_true rfl, ⟨by decide +kernel, by decide +kernel⟩, by decide +kernel⟩
set_option maxRecDepth 100000 in
theorem yk_209 : am_yok am_y 209 := ⟨rfl, rfl, Nat.le_of_ble_eq_true rfl, ⟨by decide +kernel, by decide +kernel⟩, by decide +kernel⟩
set_option maxRecDepth 100000 in
theorem yk_210 : am_yok am_y 210 := ⟨rfl, rfl, Nat.le_of_ble_eq_true rfl, ⟨by decide +kernel, by decide +kernel⟩, by decide +kernel⟩
set_option maxRecDepth 100000 in
theorem yk_211 : am_yok am_y 211 := ⟨rfl, rfl, Nat.le_of_ble_eq_true rfl, ⟨by decide +kernel, by decide +kernel⟩, by decide +kernel⟩
set_option maxRecDepth 100000 in
theorem yk_212 : am_yok am_y 212 := ⟨rfl, rfl, Nat.le_of_ble_eq_true rfl, ⟨by decide +kernel, by decide +kernel⟩, by decide +kernel⟩
set_option maxRecDepth 100000 in
theorem yk_213 : am_yok am_y 213 := ⟨rfl, rfl, Nat.le_of_ble_eq_true rfl, ⟨by decide +kernel, by decide +kernel⟩, by decide +kernel⟩
set_option maxRecDepth 100000 in
theorem yk_214 : am_yok am_y 214 := ⟨rfl, rfl, Nat.le_of_ble_eq_true rfl, ⟨by decide +kernel, by decide +kernel⟩, by decide +kernel⟩
set_option maxRecDepth 100000 in
theorem yk_215 : am_yok am_y 215 := ⟨rfl, rfl, Nat.le_of_ble_eq_true rfl, ⟨by decide +kernel, by decide +kernel⟩, by decide +kernel⟩
set_option maxRecDepth 100000 in
theorem yk_216 : am_yok am_y 216 := ⟨rfl, rfl, Nat.le_of_ble_eq_true rfl, ⟨by decide +kernel, by decide +kernel⟩, by decide +kernel⟩
set_option maxRecDepth 100000 in
theorem yk_217 : am_yok am_y 217 := ⟨rfl, rfl, Nat.le_of_ble_eq_true rfl, ⟨by decide +kernel, by decide +kernel⟩, by decide +kernel⟩
set_option maxRecDepth 100000 in
theorem yk_218 : am_yok am_y 218 := ⟨rfl, rfl, Nat.le_of_ble_eq_true rfl, ⟨by decide +kernel, by decide +kernel⟩, by decide +kernel⟩
set_option maxRecDepth 100000 in
theorem yk_219 : am_yok am_y 219 := ⟨rfl, rfl, Nat.le_of_ble_eq_true rfl, ⟨by decide +kernel, by decide +kernel⟩, by decide +kernel⟩
set_option maxRecDepth 100000 in
theorem yk_220 : am_yok am_y 220 := ⟨rfl, rfl, Nat.le_of_ble_eq_true rfl, ⟨by decide +kernel, by decide +kernel⟩, by decide +kernel⟩
set_option maxRecDepth 100000 in
theorem yk_221 : am_yok am_y 221 := ⟨rfl, rfl, Nat.le_of_ble_eq_true rfl, ⟨by decide +kernel, by decide +kernel⟩, by decide +kernel⟩
set_option maxRecDepth 100000 in
theorem yk_222 : am_yok am_y 222 := ⟨rfl, rfl, Nat.le_of_ble_eq_true rfl, ⟨by decide +kernel, by decide +kernel⟩, by decide +kernel⟩
set_option maxRecDepth 100000 in
theorem yk_223 : am_yok am_y 223 := ⟨rfl, rfl, Nat.le_of_ble_eq_true rfl, ⟨by decide +kernel, by decide +kernel⟩, by decide +kernel⟩
set_option maxRecDepth 100000 in
theorem yk_224 : am_yok am_y 224 := ⟨rfl, rfl, Nat.le_of_ble_eq_true rfl, ⟨by decide +kernel, by decide +kernel⟩, by decide +kernel⟩
set_option maxRecDepth 100000 in
theorem yk_225 : am_yok am_y 225 := ⟨rfl, rfl, Nat.le_of_ble_eq_true rfl, ⟨by decide +kernel, by decide +kernel⟩, by decide +kernel⟩
set_option maxRecDepth 100000 in
theorem yk_226 : am_yok am_y 226 := ⟨rfl, rfl, Nat.le_of_ble_eq_true rfl, ⟨by decide +kernel, by decide +kernel⟩, by decide +kernel⟩
set_option maxRecDepth 100000 in
theorem yk_227 : am_yok am_y 227 := ⟨rfl, rfl, Nat.le_of_ble_eq_true rfl, ⟨by decide +kernel, by decide +kernel⟩, by decide +kernel⟩
set_option maxRecDepth 100000 in
theorem yk_228 : am_yok am_y 228 := ⟨rfl, rfl, Nat.le_of_ble_eq_true rfl, ⟨by decide +kernel, by decide +kernel⟩, by decide +kernel⟩
set_option maxRecDepth 100000 in
theorem yk_229 : am_yok am_y 229 := ⟨rfl, rfl, Nat.le_of_ble_eq_true rfl, ⟨by decide +kernel, by decide +kernel⟩, by decide +kernel⟩
set_option maxRecDepth 100000 in
theorem yk_230 : am_yok am_y 230 := ⟨rfl, rfl, Nat.le_of_ble_eq_true rfl, ⟨by decide +kernel, by decide +kernel⟩, by decide +kernel⟩
set_option maxRecDepth 100000 in
theorem yk_231 : am_yok am_y 231 := ⟨rfl, rfl, Nat.le_of_ble_eq_true rfl, ⟨by decide +kernel, by decide +kernel⟩, by decide +kernel⟩
set_option maxRecDepth 100000 in
theorem yk_232 : am_yok am_y 232 := ⟨rfl, rfl, Nat.le_of_ble_eq_true rfl, ⟨by decide +kernel, by decide +kernel⟩, by decide +kernel⟩
set_option maxRecDepth 100000 in
theorem yk_233 : am_yok am_y 233 := ⟨rfl, rfl, Nat.le_of_ble_eq_true rfl, ⟨by decide +kernel, by decide +kernel⟩, by decide +kernel⟩
set_option maxRecDepth 100000 in
theorem yk_234 : am_yok am_y 234 := ⟨rfl, rfl, Nat.le_of_ble_eq_true rfl, ⟨by decide +kernel, by decide +kernel⟩, by decide +kernel⟩
set_option maxRecDepth 100000 in
theorem yk_235 : am_yok am_y 235 := ⟨rfl, rfl, Nat.le_of_ble_eq_true rfl, ⟨by decide +kernel, by decide +kernel⟩, by decide +kernel⟩
set_option maxRecDepth 100000 in
theorem yk_236 : am_yok am_y 236 := ⟨rfl, rfl, Nat.le_of_ble_eq_true rfl, ⟨by decide +kernel, by decide +kernel⟩, by decide +kernel⟩
set_option maxRecDepth 100000 in
theorem yk_237 : am_yok am_y 237 := ⟨rfl, rfl, Nat.le_of_ble_eq_true rfl, ⟨by decide +kernel, by decide +kernel⟩, by decide +kernel⟩
theorem yl_20 : ∀ i, i < 20 → am_yok am_y i := am_leS (am_leS (am_leS (am_leS (am_leS (am_leS (am_leS (am_leS (am_leS (am_leS (am_leS (am_leS (am_leS (am_leS (am_leS (am_leS (am_leS (am_leS (am_leS (am_leS (am_le0) yk_0) yk_1) yk_2) yk_3) yk_4) yk_5) yk_6) yk_7) yk_8) yk_9) yk_10) yk_11) yk_12) yk_13) yk_14) yk_15) yk_16) yk_17) yk_18) yk_19
theorem yl_40 : ∀ i, i < 40 → am_yok am_y i := am_leS (am_leS (am_leS (am_leS (am_leS (am_leS (am_leS (am_leS (am_leS (am_leS (am_leS (am_leS (am_leS (am_leS (am_leS (am_leS (am_leS (am_leS (am_leS (am_leS (yl_20) yk_20) yk_21) yk_22) yk_23) yk_24) yk_25) yk_26) yk_27) yk_28) yk_29) yk_30) yk_31) yk_32) yk_33) yk_34) yk_35) yk_36) yk_37) yk_38) yk_39
theorem yl_60 : ∀ i, i < 60 → am_yok am_y i := am_leS (am_leS (am_leS (am_leS (am_leS (am_leS (am_leS (am_leS (am_leS (am_leS (am_leS (am_leS (am_leS (am_leS (am_leS (am_leS (am_leS (am_leS (am_leS (am_leS (yl_40) yk_40) yk_41) yk_42) yk_43) yk_44) yk_45) yk_46) yk_47) yk_48) yk_49) yk_50) yk_51) yk_52) yk_53) yk_54) yk_55) yk_56) yk_57) yk_58) yk_59
theorem yl_80 : ∀ i, i < 80 → am_yok am_y i := am_leS (am_leS (am_leS (am_leS (am_leS (am_leS (am_leS (am_leS (am_leS (am_leS (am_leS (am_leS (am_leS (am_leS (am_leS (am_leS (am_leS (am_leS (am_leS (am_leS (yl_60) yk_60) yk_61) yk_62) yk_63) yk_64) yk_65) yk_66) yk_67) yk_68) yk_69) yk_70) yk_71) yk_72) yk_73) yk_74) yk_75) yk_76) yk_77) yk_78) yk_79
theorem yl_100 : ∀ i, i < 100 → am_yok am_y i := am_leS (am_leS (am_leS (am_leS (am_leS (am_leS (am_leS (am_leS (am_leS (am_leS (am_leS (am_leS (am_leS (am_leS (am_leS (am_leS (am_leS (am_leS (am_leS (am_leS (yl_80) yk_80) yk_81) yk_82) yk_83) yk_84) yk_85) yk_86) yk_87) yk_88) yk_89) yk_90) yk_91) yk_92) yk_93) yk_94) yk_95) yk_96) yk_97) yk_98) yk_99
theorem yl_120 : ∀ i, i < 120 → am_yok am_y i := am_leS (am_leS (am_leS (am_leS (am_leS (am_leS (am_leS (am_leS (am_leS (am_leS (am_leS (am_leS (am_leS (am_leS (am_leS (am_leS (am_leS (am_leS (am_leS (am_leS (yl_100) yk_100) yk_101) yk_102) yk_103) yk_104) yk_105) yk_106) yk_107) yk_108) yk_109) yk_110) yk_111) yk_112) yk_113) yk_114) yk_115) yk_116) yk_117) yk_118) yk_119
theorem yl_140 : ∀ i, i < 140 → am_yok am_y i := am_leS (am_leS (am_leS (am_leS (am_leS (am_leS (am_leS (am_leS (am_leS (am_leS (am_leS (am_leS (am_leS (am_leS (am_leS (am_leS (am_leS (am_leS (am_leS (am_leS (yl_120) yk_120) yk_121) yk_122) yk_123) yk_124) yk_125) yk_126) yk_127) yk_128) yk_129) yk_130) yk_131) yk_132) yk_133) yk_134) yk_135) yk_136) yk_137) yk_138) yk_139
theorem yl_160 : ∀ i, i < 160 → am_yok am_y i := am_leS (am_leS (am_leS (am_leS (am_leS (am_leS (am_leS (am_leS (am_leS (am_leS (am_leS (am_leS (am_leS (am_leS (am_leS (am_leS (am_leS (am_leS (am_leS (am_leS (yl_140) yk_140) yk_141) yk_142) yk_143) yk_144) yk_145) yk_146) yk_147) yk_148) yk_149) yk_150) yk_151) yk_152) yk_153) yk_154) yk_155) yk_156) yk_157) yk_158) yk_159
theorem yl_180 : ∀ i, i < 180 → am_yok am_y i := am_leS (am_leS (am_leS (am_leS (am_leS (am_leS (am_leS (am_leS (am_leS (am_leS (am_leS (am_leS (am_leS (am_leS (am_leS (am_leS (am_leS (am_leS (am_leS (am_leS (yl_160) yk_160) yk_161) yk_162) yk_163) yk_164) yk_165) yk_166) yk_167) yk_168) yk_169) yk_170) yk_171) yk_172) yk_173) yk_174) yk_175) yk_176) yk_177) yk_178) yk_179
theorem yl_200 : ∀ i, i < 200 → am_yok am_y i := am_leS (am_leS (am_leS (am_leS (am_leS (am_leS (am_leS (am_leS (am_leS (am_leS (am_leS (am_leS (am_leS (am_leS (am_leS (am_leS (am_leS (am_leS (am_leS (am_leS (yl_180) yk_180) yk_181) yk_182) yk_183) yk_184) yk_185) yk_186) yk_187) yk_188) yk_189) yk_190) yk_191) yk_192) yk_193) yk_194) yk_195) yk_196) yk_197) yk_198) yk_199
theorem yl_220 : ∀ i, i < 220 → am_yok am_y i := am_leS (am_leS (am_leS (am_leS (am_leS (am_leS (am_leS (am_leS (am_leS (am_leS (am_leS (am_leS (am_leS (am_leS (am_leS (am_leS (am_leS (am_leS (am_leS (am_leS (yl_200) yk_200) yk_201) yk_202) yk_203) yk_204) yk_205) yk_206) yk_207) yk_208) yk_209) yk_210) yk_211) yk_212) yk_213) yk_214) yk_215) yk_216) yk_217) yk_218) yk_219
theorem yl_238 : ∀ i, i < 238 → am_yok am_y i := am_leS (am_leS (am_leS (am_leS (am_leS (am_leS (am_leS (am_leS (am_leS (am_leS (am_leS (am_leS (am_leS (am_leS (am_leS (am_leS (am_leS (am_leS (yl_220) yk_220) yk_221) yk_222) yk_223) yk_224) yk_225) yk_226) yk_227) yk_228) yk_229) yk_230) yk_231) yk_232) yk_233) yk_234) yk_235) yk_236) yk_237
