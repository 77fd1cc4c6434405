set_option maxRecDepth 100000 in
theorem ok_258_0 : mk_258_0.all (mg_chk 258) = true := by decide +kernel
set_option maxRecDepth 100000 in
theorem ok_258_1 : mk_258_1.all (mg_chk 258) = true := by decide +kernel
set_option maxRecDepth 100000 in
theorem ok_258_2 : mk_258_2.all (mg_chk 258) = true := by decide +kernel
set_option maxRecDepth 100000 in
theorem ok_258_3 : mk_258_3.all (mg_chk 258) = true := by decide +kernel
set_option maxRecDepth 100000 in
theorem ok_258_4 : mk_258_4.all (mg_chk 258) = true := by decide +kernel
