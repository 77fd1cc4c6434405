set_option maxRecDepth 100000 in
theorem ok_258_5 : mk_258_5.all (mg_chk 258) = true := by decide +kernel
set_option maxRecDepth 100000 in
theorem ok_258_6 : mk_258_6.all (mg_chk 258) = true := by decide +kernel
set_option maxRecDepth 100000 in
theorem ok_258_7 : mk_258_7.all (mg_chk 258) = true := by decide +kernel
set_option maxRecDepth 100000 in
theorem ok_258_8 : mk_258_8.all (mg_chk 258) = true := by decide +kernel
set_option maxRecDepth 100000 in
theorem ok_258_9 : mk_258_9.all (mg_chk 258) = true := by decide +kernel
