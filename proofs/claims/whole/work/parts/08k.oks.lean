set_option maxRecDepth 100000 in
theorem ok_258_11 : mk_258_11.all (mg_chk 258) = true := by decide +kernel
