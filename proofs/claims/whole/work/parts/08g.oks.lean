set_option maxRecDepth 100000 in
theorem ok_222 : mk_222.all (mg_chk 222) = true := by decide +kernel
set_option maxRecDepth 100000 in
theorem ok_223 : mk_223.all (mg_chk 223) = true := by decide +kernel
set_option maxRecDepth 100000 in
theorem ok_224 : mk_224.all (mg_chk 224) = true := by decide +kernel
set_option maxRecDepth 100000 in
theorem ok_225 : mk_225.all (mg_chk 225) = true := by decide +kernel
set_option maxRecDepth 100000 in
theorem ok_226 : mk_226.all (mg_chk 226) = true := by decide +kernel
set_option maxRecDepth 100000 in
theorem ok_227 : mk_227.all (mg_chk 227) = true := by decide +kernel
set_option maxRecDepth 100000 in
theorem ok_228 : mk_228.all (mg_chk 228) = true := by decide +kernel
set_option maxRecDepth 100000 in
theorem ok_229 : mk_229.all (mg_chk 229) = true := by decide +kernel
set_option maxRecDepth 100000 in
theorem ok_230 : mk_230.all (mg_chk 230) = true := by decide +kernel
set_option maxRecDepth 100000 in
theorem ok_231 : mk_231.all (mg_chk 231) = true := by decide +kernel
set_option maxRecDepth 100000 in
theorem ok_232 : mk_232.all (mg_chk 232) = true := by decide +kernel
set_option maxRecDepth 100000 in
theorem ok_233 : mk_233.all (mg_chk 233) = true := by decide +kernel
set_option maxRecDepth 100000 in
theorem ok_234 : mk_234.all (mg_chk 234) = true := by decide +kernel
set_option maxRecDepth 100000 in
theorem ok_235 : mk_235.all (mg_chk 235) = true := by decide +kernel
set_option maxRecDepth 100000 in
theorem ok_236 : mk_236.all (mg_chk 236) = true := by decide +kernel
set_option maxRecDepth 100000 in
theorem ok_237 : mk_237.all (mg_chk 237) = true := by decide +kernel
set_option maxRecDepth 100000 in
theorem ok_238 : mk_238.all (mg_chk 238) = true := by decide +kernel
set_option maxRecDepth 100000 in
theorem ok_239 : mk_239.all (mg_chk 239) = true := by decide +kernel
set_option maxRecDepth 100000 in
theorem ok_240 : mk_240.all (mg_chk 240) = true := by decide +kernel
set_option maxRecDepth 100000 in
theorem ok_241 : mk_241.all (mg_chk 241) = true := by decide +kernel
set_option maxRecDepth 100000 in
theorem ok_242 : mk_242.all (mg_chk 242) = true := by decide +kernel
set_option maxRecDepth 100000 in
theorem ok_243 : mk_243.all (mg_chk 243) = true := by decide +kernel
set_option maxRecDepth 100000 in
theorem ok_244 : mk_244.all (mg_chk 244) = true := by decide +kernel
set_option maxRecDepth 100000 in
theorem ok_245 : mk_245.all (mg_chk 245) = true := by decide +kernel
set_option maxRecDepth 100000 in
theorem ok_246 : mk_246.all (mg_chk 246) = true := by decide +kernel
set_option maxRecDepth 100000 in
theorem ok_247 : mk_247.all (mg_chk 247) = true := by decide +kernel
set_option maxRecDepth 100000 in
theorem ok_248 : mk_248.all (mg_chk 248) = true := by decide +kernel
set_option maxRecDepth 100000 in
theorem ok_249 : mk_249.all (mg_chk 249) = true := by decide +kernel
set_option maxRecDepth 100000 in
theorem ok_250 : mk_250.all (mg_chk 250) = true := by decide +kernel
set_option maxRecDepth 100000 in
theorem ok_251 : mk_251.all (mg_chk 251) = true := by decide +kernel
set_option maxRecDepth 100000 in
theorem ok_252 : mk_252.all (mg_chk 252) = true := by decide +kernel
set_option maxRecDepth 100000 in
theorem ok_253 : mk_253.all (mg_chk 253) = true := by decide +kernel
set_option maxRecDepth 100000 in
theorem ok_254 : mk_254.all (mg_chk 254) = true := by decide +kernel
set_option maxRecDepth 100000 in
theorem ok_255 : mk_255.all (mg_chk 255) = true := by decide +kernel
set_option maxRecDepth 100000 in
theorem ok_256 : mk_256.all (mg_chk 256) = true := by decide +kernel
set_option maxRecDepth 100000 in
theorem ok_257 : mk_257.all (mg_chk 257) = true := by decide +kernel
