set_option maxRecDepth 100000 in
theorem okp_14_2 : ((mk_258_14.drop 50).take 25).all (mg_chk 258) = true := by decide +kernel
set_option maxRecDepth 100000 in
theorem okp_14_3 : (mk_258_14.drop 75).all (mg_chk 258) = true := by decide +kernel
