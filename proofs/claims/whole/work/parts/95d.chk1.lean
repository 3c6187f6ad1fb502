set_option maxRecDepth 100000 in
theorem mk_0 : am_mok am_y am_m 0 = true := by decide +kernel
set_option maxRecDepth 100000 in
theorem mk_1 : am_mok am_y am_m 1 = true := by decide +kernel
set_option maxRecDepth 100000 in
theorem mk_2 : am_mok am_y am_m 2 = true := by decide +kernel
set_option maxRecDepth 100000 in
theorem mk_3 : am_mok am_y am_m 3 = true := by decide +kernel
set_option maxRecDepth 100000 in
theorem mk_4 : am_mok am_y am_m 4 = true := by decide +kernel
set_option maxRecDepth 100000 in
theorem mk_5 : am_mok am_y am_m 5 = true := by decide +kernel
set_option maxRecDepth 100000 in
theorem mk_6 : am_mok am_y am_m 6 = true := by decide +kernel
set_option maxRecDepth 100000 in
theorem mk_7 : am_mok am_y am_m 7 = true := by decide +kernel
set_option maxRecDepth 100000 in
theorem mk_8 : am_mok am_y am_m 8 = true := by decide +kernel
set_option maxRecDepth 100000 in
theorem mk_9 : am_mok am_y am_m 9 = true := by decide +kernel
set_option maxRecDepth 100000 in
theorem mk_10 : am_mok am_y am_m 10 = true := by decide +kernel
set_option maxRecDepth 100000 in
theorem mk_11 : am_mok am_y am_m 11 = true := by decide +kernel
set_option maxRecDepth 100000 in
theorem mk_12 : am_mok am_y am_m 12 = true := by decide +kernel
set_option maxRecDepth 100000 in
theorem mk_13 : am_mok am_y am_m 13 = true := by decide +kernel
set_option maxRecDepth 100000 in
theorem mk_14 : am_mok am_y am_m 14 = true := by decide +kernel
set_option maxRecDepth 100000 in
theorem mk_15 : am_mok am_y am_m 15 = true := by decide +kernel
set_option maxRecDepth 100000 in
theorem mk_16 : am_mok am_y am_m 16 = true := by decide +kernel
set_option maxRecDepth 100000 in
theorem mk_17 : am_mok am_y am_m 17 = true := by decide +kernel
set_option maxRecDepth 100000 in
theorem mk_18 : am_mok am_y am_m 18 = true := by decide +kernel
set_option maxRecDepth 100000 in
theorem mk_19 : am_mok am_y am_m 19 = true := by decide +kernel
set_option maxRecDepth 100000 in
theorem mk_20 : am_mok am_y am_m 20 = true := by decide +kernel
set_option maxRecDepth 100000 in
theorem mk_21 : am_mok am_y am_m 21 = true := by decide +kernel
set_option maxRecDepth 100000 in
theorem mk_22 : am_mok am_y am_m 22 = true := by decide +kernel
set_option maxRecDepth 100000 in
theorem mk_23 : am_mok am_y am_m 23 = true := by decide +kernel
set_option maxRecDepth 100000 in
theorem mk_24 : am_mok am_y am_m 24 = true := by decide +kernel
set_option maxRecDepth 100000 in
theorem mk_25 : am_mok am_y am_m 25 = true := by decide +kernel
set_option maxRecDepth 100000 in
theorem mk_26 : am_mok am_y am_m 26 = true := by decide +kernel
set_option maxRecDepth 100000 in
theorem mk_27 : am_mok am_y am_m 27 = true := by decide +kernel
set_option maxRecDepth 100000 in
theorem mk_28 : am_mok am_y am_m 28 = true := by decide +kernel
set_option maxRecDepth 100000 in
theorem mk_29 : am_mok am_y am_m 29 = true := by decide +kernel
