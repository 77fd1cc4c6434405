set_option maxRecDepth 100000 in
theorem ok_258_10 : mk_258_10.all (mg_chk 258) = true := by decide +kernel
