set_option maxRecDepth 100000 in
theorem ok_148 : mk_148.all (mg_chk 148) = true := by decide +kernel
set_option maxRecDepth 100000 in
theorem ok_149 : mk_149.all (mg_chk 149) = true := by decide +kernel
set_option maxRecDepth 100000 in
theorem ok_150 : mk_150.all (mg_chk 150) = true := by decide +kernel
set_option maxRecDepth 100000 in
theorem ok_151 : mk_151.all (mg_chk 151) = true := by decide +kernel
set_option maxRecDepth 100000 in
theorem ok_152 : mk_152.all (mg_chk 152) = true := by decide +kernel
set_option maxRecDepth 100000 in
theorem ok_153 : mk_153.all (mg_chk 153) = true := by decide +kernel
set_option maxRecDepth 100000 in
theorem ok_154 : mk_154.all (mg_chk 154) = true := by decide +kernel
set_option maxRecDepth 100000 in
theorem ok_155 : mk_155.all (mg_chk 155) = true := by decide +kernel
set_option maxRecDepth 100000 in
theorem ok_156 : mk_156.all (mg_chk 156) = true := by decide +kernel
set_option maxRecDepth 100000 in
theorem ok_157 : mk_157.all (mg_chk 157) = true := by decide +kernel
set_option maxRecDepth 100000 in
theorem ok_158 : mk_158.all (mg_chk 158) = true := by decide +kernel
set_option maxRecDepth 100000 in
theorem ok_159 : mk_159.all (mg_chk 159) = true := by decide +kernel
set_option maxRecDepth 100000 in
theorem ok_160 : mk_160.all (mg_chk 160) = true := by decide +kernel
set_option maxRecDepth 100000 in
theorem ok_161 : mk_161.all (mg_chk 161) = true := by decide +kernel
set_option maxRecDepth 100000 in
theorem ok_162 : mk_162.all (mg_chk 162) = true := by decide +kernel
set_option maxRecDepth 100000 in
theorem ok_163 : mk_163.all (mg_chk 163) = true := by decide +kernel
set_option maxRecDepth 100000 in
theorem ok_164 : mk_164.all (mg_chk 164) = true := by decide +kernel
set_option maxRecDepth 100000 in
theorem ok_165 : mk_165.all (mg_chk 165) = true := by decide +kernel
set_option maxRecDepth 100000 in
theorem ok_166 : mk_166.all (mg_chk 166) = true := by decide +kernel
set_option maxRecDepth 100000 in
theorem ok_167 : mk_167.all (mg_chk 167) = true := by decide +kernel
set_option maxRecDepth 100000 in
theorem ok_168 : mk_168.all (mg_chk 168) = true := by decide +kernel
set_option maxRecDepth 100000 in
theorem ok_169 : mk_169.all (mg_chk 169) = true := by decide +kernel
set_option maxRecDepth 100000 in
theorem ok_170 : mk_170.all (mg_chk 170) = true := by decide +kernel
set_option maxRecDepth 100000 in
theorem ok_171 : mk_171.all (mg_chk 171) = true := by decide +kernel
set_option maxRecDepth 100000 in
theorem ok_172 : mk_172.all (mg_chk 172) = true := by decide +kernel
set_option maxRecDepth 100000 in
theorem ok_173 : mk_173.all (mg_chk 173) = true := by decide +kernel
set_option maxRecDepth 100000 in
theorem ok_174 : mk_174.all (mg_chk 174) = true := by decide +kernel
set_option maxRecDepth 100000 in
theorem ok_175 : mk_175.all (mg_chk 175) = true := by decide +kernel
set_option maxRecDepth 100000 in
theorem ok_176 : mk_176.all (mg_chk 176) = true := by decide +kernel
set_option maxRecDepth 100000 in
theorem ok_177 : mk_177.all (mg_chk 177) = true := by decide +kernel
set_option maxRecDepth 100000 in
theorem ok_178 : mk_178.all (mg_chk 178) = true := by decide +kernel
set_option maxRecDepth 100000 in
theorem ok_179 : mk_179.all (mg_chk 179) = true := by decide +kernel
set_option maxRecDepth 100000 in
theorem ok_180 : mk_180.all (mg_chk 180) = true := by decide +kernel
set_option maxRecDepth 100000 in
theorem ok_181 : mk_181.all (mg_chk 181) = true := by decide +kernel
set_option maxRecDepth 100000 in
theorem ok_182 : mk_182.all (mg_chk 182) = true := by decide +kernel
set_option maxRecDepth 100000 in
theorem ok_183 : mk_183.all (mg_chk 183) = true := by decide +kernel
set_option maxRecDepth 100000 in
theorem ok_184 : mk_184.all (mg_chk 184) = true := by decide +kernel
