set_option maxRecDepth 100000 in
theorem ok_185 : mk_185.all (mg_chk 185) = true := by decide +kernel
set_option maxRecDepth 100000 in
theorem ok_186 : mk_186.all (mg_chk 186) = true := by decide +kernel
set_option maxRecDepth 100000 in
theorem ok_187 : mk_187.all (mg_chk 187) = true := by decide +kernel
set_option maxRecDepth 100000 in
theorem ok_188 : mk_188.all (mg_chk 188) = true := by decide +kernel
set_option maxRecDepth 100000 in
theorem ok_189 : mk_189.all (mg_chk 189) = true := by decide +kernel
set_option maxRecDepth 100000 in
theorem ok_190 : mk_190.all (mg_chk 190) = true := by decide +kernel
set_option maxRecDepth 100000 in
theorem ok_191 : mk_191.all (mg_chk 191) = true := by decide +kernel
set_option maxRecDepth 100000 in
theorem ok_192 : mk_192.all (mg_chk 192) = true := by decide +kernel
set_option maxRecDepth 100000 in
theorem ok_193 : mk_193.all (mg_chk 193) = true := by decide +kernel
set_option maxRecDepth 100000 in
theorem ok_194 : mk_194.all (mg_chk 194) = true := by decide +kernel
set_option maxRecDepth 100000 in
theorem ok_195 : mk_195.all (mg_chk 195) = true := by decide +kernel
set_option maxRecDepth 100000 in
theorem ok_196 : mk_196.all (mg_chk 196) = true := by decide +kernel
set_option maxRecDepth 100000 in
theorem ok_197 : mk_197.all (mg_chk 197) = true := by decide +kernel
set_option maxRecDepth 100000 in
theorem ok_198 : mk_198.all (mg_chk 198) = true := by decide +kernel
set_option maxRecDepth 100000 in
theorem ok_199 : mk_199.all (mg_chk 199) = true := by decide +kernel
set_option maxRecDepth 100000 in
theorem ok_200 : mk_200.all (mg_chk 200) = true := by decide +kernel
set_option maxRecDepth 100000 in
theorem ok_201 : mk_201.all (mg_chk 201) = true := by decide +kernel
set_option maxRecDepth 100000 in
theorem ok_202 : mk_202.all (mg_chk 202) = true := by decide +kernel
set_option maxRecDepth 100000 in
theorem ok_203 : mk_203.all (mg_chk 203) = true := by decide +kernel
set_option maxRecDepth 100000 in
theorem ok_204 : mk_204.all (mg_chk 204) = true := by decide +kernel
set_option maxRecDepth 100000 in
theorem ok_205 : mk_205.all (mg_chk 205) = true := by decide +kernel
set_option maxRecDepth 100000 in
theorem ok_206 : mk_206.all (mg_chk 206) = true := by decide +kernel
set_option maxRecDepth 100000 in
theorem ok_207 : mk_207.all (mg_chk 207) = true := by decide +kernel
set_option maxRecDepth 100000 in
theorem ok_208 : mk_208.all (mg_chk 208) = true := by decide +kernel
set_option maxRecDepth 100000 in
theorem ok_209 : mk_209.all (mg_chk 209) = true := by decide +kernel
set_option maxRecDepth 100000 in
theorem ok_210 : mk_210.all (mg_chk 210) = true := by decide +kernel
set_option maxRecDepth 100000 in
theorem ok_211 : mk_211.all (mg_chk 211) = true := by decide +kernel
set_option maxRecDepth 100000 in
theorem ok_212 : mk_212.all (mg_chk 212) = true := by decide +kernel
set_option maxRecDepth 100000 in
theorem ok_213 : mk_213.all (mg_chk 213) = true := by decide +kernel
set_option maxRecDepth 100000 in
theorem ok_214 : mk_214.all (mg_chk 214) = true := by decide +kernel
set_option maxRecDepth 100000 in
theorem ok_215 : mk_215.all (mg_chk 215) = true := by decide +kernel
set_option maxRecDepth 100000 in
theorem ok_216 : mk_216.all (mg_chk 216) = true := by decide +kernel
set_option maxRecDepth 100000 in
theorem ok_217 : mk_217.all (mg_chk 217) = true := by decide +kernel
set_option maxRecDepth 100000 in
theorem ok_218 : mk_218.all (mg_chk 218) = true := by decide +kernel
set_option maxRecDepth 100000 in
theorem ok_219 : mk_219.all (mg_chk 219) = true := by decide +kernel
set_option maxRecDepth 100000 in
theorem ok_220 : mk_220.all (mg_chk 220) = true := by decide +kernel
set_option maxRecDepth 100000 in
theorem ok_221 : mk_221.all (mg_chk 221) = true := by decide +kernel
