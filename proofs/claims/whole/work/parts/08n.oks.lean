set_option maxRecDepth 100000 in
theorem okp_13_0 : ((mk_258_13.drop 0).take 25).all (mg_chk 258) = true := by decide +kernel
set_option maxRecDepth 100000 in
theorem okp_13_1 : ((mk_258_13.drop 25).take 25).all (mg_chk 258) = true := by decide +kernel
