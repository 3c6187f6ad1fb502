set_option maxRecDepth 100000 in
theorem mk_30 : am_mok am_y am_m 30 = true := by decide +kernel
set_option maxRecDepth 100000 in
theorem mk_31 : am_mok am_y am_m 31 = true := by decide +kernel
set_option maxRecDepth 100000 in
theorem mk_32 : am_mok am_y am_m 32 = true := by decide +kernel
set_option maxRecDepth 100000 in
theorem mk_33 : am_mok am_y am_m 33 = true := by decide +kernel
set_option maxRecDepth 100000 in
theorem mk_34 : am_mok am_y am_m 34 = true := by decide +kernel
set_option maxRecDepth 100000 in
theorem mk_35 : am_mok am_y am_m 35 = true := by decide +kernel
set_option maxRecDepth 100000 in
theorem mk_36 : am_mok am_y am_m 36 = true := by decide +kernel
set_option maxRecDepth 100000 in
theorem mk_37 : am_mok am_y am_m 37 = true := by decide +kernel
set_option maxRecDepth 100000 in
theorem mk_38 : am_mok am_y am_m 38 = true := by decide +kernel
set_option maxRecDepth 100000 in
theorem mk_39 : am_mok am_y am_m 39 = true := by decide +kernel
set_option maxRecDepth 100000 in
theorem mk_40 : am_mok am_y am_m 40 = true := by decide +kernel
set_option maxRecDepth 100000 in
theorem mk_41 : am_mok am_y am_m 41 = true := by decide +kernel
set_option maxRecDepth 100000 in
theorem mk_42 : am_mok am_y am_m 42 = true := by decide +kernel
set_option maxRecDepth 100000 in
theorem mk_43 : am_mok am_y am_m 43 = true := by decide +kernel
set_option maxRecDepth 100000 in
theorem mk_44 : am_mok am_y am_m 44 = true := by decide +kernel
set_option maxRecDepth 100000 in
theorem mk_45 : am_mok am_y am_m 45 = true := by decide +kernel
set_option maxRecDepth 100000 in
theorem mk_46 : am_mok am_y am_m 46 = true := by decide +kernel
set_option maxRecDepth 100000 in
theorem mk_47 : am_mok am_y am_m 47 = true := by decide +kernel
set_option maxRecDepth 100000 in
theorem mk_48 : am_mok am_y am_m 48 = true := by decide +kernel
set_option maxRecDepth 100000 in
theorem mk_49 : am_mok am_y am_m 49 = true := by decide +kernel
set_option maxRecDepth 100000 in
theorem mk_50 : am_mok am_y am_m 50 = true := by decide +kernel
set_option maxRecDepth 100000 in
theorem mk_51 : am_mok am_y am_m 51 = true := by decide +kernel
set_option maxRecDepth 100000 in
theorem mk_52 : am_mok am_y am_m 52 = true := by decide +kernel
set_option maxRecDepth 100000 in
theorem mk_53 : am_mok am_y am_m 53 = true := by decide +kernel
set_option maxRecDepth 100000 in
theorem mk_54 : am_mok am_y am_m 54 = true := by decide +kernel
set_option maxRecDepth 100000 in
theorem mk_55 : am_mok am_y am_m 55 = true := by decide +kernel
set_option maxRecDepth 100000 in
theorem mk_56 : am_mok am_y am_m 56 = true := by decide +kernel
set_option maxRecDepth 100000 in
theorem mk_57 : am_mok am_y am_m 57 = true := by decide +kernel
set_option maxRecDepth 100000 in
theorem mk_58 : am_mok am_y am_m 58 = true := by decide +kernel
set_option maxRecDepth 100000 in
theorem mk_59 : am_mok am_y am_m 59 = true := by decide +kernel
set_option maxRecDepth 100000 in
theorem mk_60 : am_mok am_y am_m 60 = true := by decide +kernel
set_option maxRecDepth 100000 in
theorem mk_61 : am_mok am_y am_m 61 = true := by decide +kernel
set_option maxRecDepth 100000 in
theorem mk_62 : am_mok am_y am_m 62 = true := by decide +kernel
set_option maxRecDepth 100000 in
theorem mk_63 : am_mok am_y am_m 63 = true := by decide +kernel
set_option maxRecDepth 100000 in
theorem mk_64 : am_mok am_y am_m 64 = true := by decide +kernel
set_option maxRecDepth 100000 in
theorem mk_65 : am_mok am_y am_m 65 = true := by decide +kernel
set_option maxRecDepth 100000 in
theorem mk_66 : am_mok am_y am_m 66 = true := by decide +kernel
set_option maxRecDepth 100000 in
theorem mk_67 : am_mok am_y am_m 67 = true := by decide +kernel
set_option maxRecDepth 100000 in
theorem mk_68 : am_mok am_y am_m 68 = true := by decide +kernel
set_option maxRecDepth 100000 in
theorem mk_69 : am_mok am_y am_m 69 = true := by decide +kernel
set_option maxRecDepth 100000 in
theorem mk_70 : am_mok am_y am_m 70 = true := by decide +kernel
set_option maxRecDepth 100000 in
theorem mk_71 : am_mok am_y am_m 71 = true := by decide +kernel
set_option maxRecDepth 100000 in
theorem mk_72 : am_mok am_y am_m 72 = true := by decide +kernel
set_option maxRecDepth 100000 in
theorem mk_73 : am_mok am_y am_m 73 = true := by decide +kernel
set_option maxRecDepth 100000 in
theorem mk_74 : am_mok am_y am_m 74 = true := by decide +kernel
set_option maxRecDepth 100000 in
theorem mk_75 : am_mok am_y am_m 75 = true := by decide +kernel
set_option maxRecDepth 100000 in
theorem mk_76 : am_mok am_y am_m 76 = true := by decide +kernel
set_option maxRecDepth 100000 in
theorem mk_77 : am_mok am_y am_m 77 = true := by decide +kernel
set_option maxRecDepth 100000 in
theorem mk_78 : am_mok am_y am_m 78 = true := by decide +kernel
set_option maxRecDepth 100000 in
theorem mk_79 : am_mok am_y am_m 79 = true := by decide +kernel
set_option maxRecDepth 100000 in
theorem mk_80 : am_mok am_y am_m 80 = true := by decide +kernel
set_option maxRecDepth 100000 in
theorem mk_81 : am_mok am_y am_m 81 = true := by decide +kernel
set_option maxRecDepth 100000 in
theorem mk_82 : am_mok am_y am_m 82 = true := by decide +kernel
set_option maxRecDepth 100000 in
theorem mk_83 : am_mok am_y am_m 83 = true := by decide +kernel
set_option maxRecDepth 100000 in
theorem mk_84 : am_mok am_y am_m 84 = true := by decide +kernel
set_option maxRecDepth 100000 in
theorem mk_85 : am_mok am_y am_m 85 = true := by decide +kernel
set_option maxRecDepth 100000 in
theorem mk_86 : am_mok am_y am_m 86 = true := by decide +kernel
set_option maxRecDepth 100000 in
theorem mk_87 : am_mok am_y am_m 87 = true := by decide +kernel
set_option maxRecDepth 100000 in
theorem mk_88 : am_mok am_y am_m 88 = true := by decide +kernel
set_option maxRecDepth 100000 in
theorem mk_89 : am_mok am_y am_m 89 = true := by decide +kernel
