set_option maxRecDepth 100000 in
theorem ok_258_10 : mk_258_10.all (mg_chk 258) = true := by decide +kernel
set_option maxRecDepth 100000 in
theorem ok_258_11 : mk_258_11.all (mg_chk 258) = true := by decide +kernel
set_option maxRecDepth 100000 in
theorem ok_258_12 : mk_258_12.all (mg_chk 258) = true := by decide +kernel
set_option maxRecDepth 100000 in
theorem ok_258_13 : mk_258_13.all (mg_chk 258) = true := by decide +kernel
set_option maxRecDepth 100000 in
theorem ok_258_14 : mk_258_14.all (mg_chk 258) = true := by decide +kernel
theorem ok_258 : mk_258.all (mg_chk 258) = true := (mg_allapp ok_258_0 (mg_allapp ok_258_1 (mg_allapp ok_258_2 (mg_allapp ok_258_3 (mg_allapp ok_258_4 (mg_allapp ok_258_5 (mg_allapp ok_258_6 (mg_allapp ok_258_7 (mg_allapp ok_258_8 (mg_allapp ok_258_9 (mg_allapp ok_258_10 (mg_allapp ok_258_11 (mg_allapp ok_258_12 (mg_allapp ok_258_13 ok_258_14))))))))))))))
