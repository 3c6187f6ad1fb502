set_option maxRecDepth 100000 in
theorem mk_90 : am_mok am_y am_m 90 = true := by decide +kernel
set_option maxRecDepth 100000 in
theorem mk_91 : am_mok am_y am_m 91 = true := by decide +kernel
set_option maxRecDepth 100000 in
theorem mk_92 : am_mok am_y am_m 92 = true := by decide +kernel
set_option maxRecDepth 100000 in
theorem mk_93 : am_mok am_y am_m 93 = true := by decide +kernel
set_option maxRecDepth 100000 in
theorem mk_94 : am_mok am_y am_m 94 = true := by decide +kernel
set_option maxRecDepth 100000 in
theorem mk_95 : am_mok am_y am_m 95 = true := by decide +kernel
set_option maxRecDepth 100000 in
theorem mk_96 : am_mok am_y am_m 96 = true := by decide +kernel
set_option maxRecDepth 100000 in
theorem mk_97 : am_mok am_y am_m 97 = true := by decide +kernel
set_option maxRecDepth 100000 in
theorem mk_98 : am_mok am_y am_m 98 = true := by decide +kernel
set_option maxRecDepth 100000 in
theorem mk_99 : am_mok am_y am_m 99 = true := by decide +kernel
set_option maxRecDepth 100000 in
theorem mk_100 : am_mok am_y am_m 100 = true := by decide +kernel
set_option maxRecDepth 100000 in
theorem mk_101 : am_mok am_y am_m 101 = true := by decide +kernel
set_option maxRecDepth 100000 in
theorem mk_102 : am_mok am_y am_m 102 = true := by decide +kernel
set_option maxRecDepth 100000 in
theorem mk_103 : am_mok am_y am_m 103 = true := by decide +kernel
set_option maxRecDepth 100000 in
theorem mk_104 : am_mok am_y am_m 104 = true := by decide +kernel
set_option maxRecDepth 100000 in
theorem mk_105 : am_mok am_y am_m 105 = true := by decide +kernel
set_option maxRecDepth 100000 in
theorem mk_106 : am_mok am_y am_m 106 = true := by decide +kernel
set_option maxRecDepth 100000 in
theorem mk_107 : am_mok am_y am_m 107 = true := by decide +kernel
set_option maxRecDepth 100000 in
theorem mk_108 : am_mok am_y am_m 108 = true := by decide +kernel
set_option maxRecDepth 100000 in
theorem mk_109 : am_mok am_y am_m 109 = true := by decide +kernel
set_option maxRecDepth 100000 in
theorem mk_110 : am_mok am_y am_m 110 = true := by decide +kernel
set_option maxRecDepth 100000 in
theorem mk_111 : am_mok am_y am_m 111 = true := by decide +kernel
set_option maxRecDepth 100000 in
theorem mk_112 : am_mok am_y am_m 112 = true := by decide +kernel
set_option maxRecDepth 100000 in
theorem mk_113 : am_mok am_y am_m 113 = true := by decide +kernel
set_option maxRecDepth 100000 in
theorem mk_114 : am_mok am_y am_m 114 = true := by decide +kernel
set_option maxRecDepth 100000 in
theorem mk_115 : am_mok am_y am_m 115 = true := by decide +kernel
set_option maxRecDepth 100000 in
theorem mk_116 : am_mok am_y am_m 116 = true := by decide +kernel
set_option maxRecDepth 100000 in
theorem mk_117 : am_mok am_y am_m 117 = true := by decide +kernel
set_option maxRecDepth 100000 in
theorem mk_118 : am_mok am_y am_m 118 = true := by decide +kernel
set_option maxRecDepth 100000 in
theorem mk_119 : am_mok am_y am_m 119 = true := by decide +kernel
set_option maxRecDepth 100000 in
theorem mk_120 : am_mok am_y am_m 120 = true := by decide +kernel
set_option maxRecDepth 100000 in
theorem mk_121 : am_mok am_y am_m 121 = true := by decide +kernel
set_option maxRecDepth 100000 in
theorem mk_122 : am_mok am_y am_m 122 = true := by decide +kernel
set_option maxRecDepth 100000 in
theorem mk_123 : am_mok am_y am_m 123 = true := by decide +kernel
set_option maxRecDepth 100000 in
theorem mk_124 : am_mok am_y am_m 124 = true := by decide +kernel
set_option maxRecDepth 100000 in
theorem mk_125 : am_mok am_y am_m 125 = true := by decide +kernel
set_option maxRecDepth 100000 in
theorem mk_126 : am_mok am_y am_m 126 = true := by decide +kernel
set_option maxRecDepth 100000 in
theorem mk_127 : am_mok am_y am_m 127 = true := by decide +kernel
set_option maxRecDepth 100000 in
theorem mk_128 : am_mok am_y am_m 128 = true := by decide +kernel
set_option maxRecDepth 100000 in
theorem mk_129 : am_mok am_y am_m 129 = true := by decide +kernel
set_option maxRecDepth 100000 in
theorem mk_130 : am_mok am_y am_m 130 = true := by decide +kernel
set_option maxRecDepth 100000 in
theorem mk_131 : am_mok am_y am_m 131 = true := by decide +kernel
set_option maxRecDepth 100000 in
theorem mk_132 : am_mok am_y am_m 132 = true := by decide +kernel
set_option maxRecDepth 100000 in
theorem mk_133 : am_mok am_y am_m 133 = true := by decide +kernel
set_option maxRecDepth 100000 in
theorem mk_134 : am_mok am_y am_m 134 = true := by decide +kernel
set_option maxRecDepth 100000 in
theorem mk_135 : am_mok am_y am_m 135 = true := by decide +kernel
