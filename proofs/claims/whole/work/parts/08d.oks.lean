set_option maxRecDepth 100000 in
theorem ok_111 : mk_111.all (mg_chk 111) = true := by decide +kernel
set_option maxRecDepth 100000 in
theorem ok_112 : mk_112.all (mg_chk 112) = true := by decide +kernel
set_option maxRecDepth 100000 in
theorem ok_113 : mk_113.all (mg_chk 113) = true := by decide +kernel
set_option maxRecDepth 100000 in
theorem ok_114 : mk_114.all (mg_chk 114) = true := by decide +kernel
set_option maxRecDepth 100000 in
theorem ok_115 : mk_115.all (mg_chk 115) = true := by decide +kernel
set_option maxRecDepth 100000 in
theorem ok_116 : mk_116.all (mg_chk 116) = true := by decide +kernel
set_option maxRecDepth 100000 in
theorem ok_117 : mk_117.all (mg_chk 117) = true := by decide +kernel
set_option maxRecDepth 100000 in
theorem ok_118 : mk_118.all (mg_chk 118) = true := by decide +kernel
set_option maxRecDepth 100000 in
theorem ok_119 : mk_119.all (mg_chk 119) = true := by decide +kernel
set_option maxRecDepth 100000 in
theorem ok_120 : mk_120.all (mg_chk 120) = true := by decide +kernel
set_option maxRecDepth 100000 in
theorem ok_121 : mk_121.all (mg_chk 121) = true := by decide +kernel
set_option maxRecDepth 100000 in
theorem ok_122 : mk_122.all (mg_chk 122) = true := by decide +kernel
set_option maxRecDepth 100000 in
theorem ok_123 : mk_123.all (mg_chk 123) = true := by decide +kernel
set_option maxRecDepth 100000 in
theorem ok_124 : mk_124.all (mg_chk 124) = true := by decide +kernel
set_option maxRecDepth 100000 in
theorem ok_125 : mk_125.all (mg_chk 125) = true := by decide +kernel
set_option maxRecDepth 100000 in
theorem ok_126 : mk_126.all (mg_chk 126) = true := by decide +kernel
set_option maxRecDepth 100000 in
theorem ok_127 : mk_127.all (mg_chk 127) = true := by decide +kernel
set_option maxRecDepth 100000 in
theorem ok_128 : mk_128.all (mg_chk 128) = true := by decide +kernel
set_option maxRecDepth 100000 in
theorem ok_129 : mk_129.all (mg_chk 129) = true := by decide +kernel
set_option maxRecDepth 100000 in
theorem ok_130 : mk_130.all (mg_chk 130) = true := by decide +kernel
set_option maxRecDepth 100000 in
theorem ok_131 : mk_131.all (mg_chk 131) = true := by decide +kernel
set_option maxRecDepth 100000 in
theorem ok_132 : mk_132.all (mg_chk 132) = true := by decide +kernel
set_option maxRecDepth 100000 in
theorem ok_133 : mk_133.all (mg_chk 133) = true := by decide +kernel
set_option maxRecDepth 100000 in
theorem ok_134 : mk_134.all (mg_chk 134) = true := by decide +kernel
set_option maxRecDepth 100000 in
theorem ok_135 : mk_135.all (mg_chk 135) = true := by decide +kernel
set_option maxRecDepth 100000 in
theorem ok_136 : mk_136.all (mg_chk 136) = true := by decide +kernel
set_option maxRecDepth 100000 in
theorem ok_137 : mk_137.all (mg_chk 137) = true := by decide +kernel
set_option maxRecDepth 100000 in
theorem ok_138 : mk_138.all (mg_chk 138) = true := by decide +kernel
set_option maxRecDepth 100000 in
theorem ok_139 : mk_139.all (mg_chk 139) = true := by decide +kernel
set_option maxRecDepth 100000 in
theorem ok_140 : mk_140.all (mg_chk 140) = true := by decide +kernel
set_option maxRecDepth 100000 in
theorem ok_141 : mk_141.all (mg_chk 141) = true := by decide +kernel
set_option maxRecDepth 100000 in
theorem ok_142 : mk_142.all (mg_chk 142) = true := by decide +kernel
set_option maxRecDepth 100000 in
theorem ok_143 : mk_143.all (mg_chk 143) = true := by decide +kernel
set_option maxRecDepth 100000 in
theorem ok_144 : mk_144.all (mg_chk 144) = true := by decide +kernel
set_option maxRecDepth 100000 in
theorem ok_145 : mk_145.all (mg_chk 145) = true := by decide +kernel
set_option maxRecDepth 100000 in
theorem ok_146 : mk_146.all (mg_chk 146) = true := by decide +kernel
set_option maxRecDepth 100000 in
theorem ok_147 : mk_147.all (mg_chk 147) = true := by decide +kernel
