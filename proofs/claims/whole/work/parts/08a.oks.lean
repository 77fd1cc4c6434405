set_option maxRecDepth 100000 in
theorem ok_0 : mk_0.all (mg_chk 0) = true := by decide +kernel
set_option maxRecDepth 100000 in
theorem ok_1 : mk_1.all (mg_chk 1) = true := by decide +kernel
set_option maxRecDepth 100000 in
theorem ok_2 : mk_2.all (mg_chk 2) = true := by decide +kernel
set_option maxRecDepth 100000 in
theorem ok_3 : mk_3.all (mg_chk 3) = true := by decide +kernel
set_option maxRecDepth 100000 in
theorem ok_4 : mk_4.all (mg_chk 4) = true := by decide +kernel
set_option maxRecDepth 100000 in
theorem ok_5 : mk_5.all (mg_chk 5) = true := by decide +kernel
set_option maxRecDepth 100000 in
theorem ok_6 : mk_6.all (mg_chk 6) = true := by decide +kernel
set_option maxRecDepth 100000 in
theorem ok_7 : mk_7.all (mg_chk 7) = true := by decide +kernel
set_option maxRecDepth 100000 in
theorem ok_8 : mk_8.all (mg_chk 8) = true := by decide +kernel
set_option maxRecDepth 100000 in
theorem ok_9 : mk_9.all (mg_chk 9) = true := by decide +kernel
set_option maxRecDepth 100000 in
theorem ok_10 : mk_10.all (mg_chk 10) = true := by decide +kernel
set_option maxRecDepth 100000 in
theorem ok_11 : mk_11.all (mg_chk 11) = true := by decide +kernel
set_option maxRecDepth 100000 in
theorem ok_12 : mk_12.all (mg_chk 12) = true := by decide +kernel
set_option maxRecDepth 100000 in
theorem ok_13 : mk_13.all (mg_chk 13) = true := by decide +kernel
set_option maxRecDepth 100000 in
theorem ok_14 : mk_14.all (mg_chk 14) = true := by decide +kernel
set_option maxRecDepth 100000 in
theorem ok_15 : mk_15.all (mg_chk 15) = true := by decide +kernel
set_option maxRecDepth 100000 in
theorem ok_16 : mk_16.all (mg_chk 16) = true := by decide +kernel
set_option maxRecDepth 100000 in
theorem ok_17 : mk_17.all (mg_chk 17) = true := by decide +kernel
set_option maxRecDepth 100000 in
theorem ok_18 : mk_18.all (mg_chk 18) = true := by decide +kernel
set_option maxRecDepth 100000 in
theorem ok_19 : mk_19.all (mg_chk 19) = true := by decide +kernel
set_option maxRecDepth 100000 in
theorem ok_20 : mk_20.all (mg_chk 20) = true := by decide +kernel
set_option maxRecDepth 100000 in
theorem ok_21 : mk_21.all (mg_chk 21) = true := by decide +kernel
set_option maxRecDepth 100000 in
theorem ok_22 : mk_22.all (mg_chk 22) = true := by decide +kernel
set_option maxRecDepth 100000 in
theorem ok_23 : mk_23.all (mg_chk 23) = true := by decide +kernel
set_option maxRecDepth 100000 in
theorem ok_24 : mk_24.all (mg_chk 24) = true := by decide +kernel
set_option maxRecDepth 100000 in
theorem ok_25 : mk_25.all (mg_chk 25) = true := by decide +kernel
set_option maxRecDepth 100000 in
theorem ok_26 : mk_26.all (mg_chk 26) = true := by decide +kernel
set_option maxRecDepth 100000 in
theorem ok_27 : mk_27.all (mg_chk 27) = true := by decide +kernel
set_option maxRecDepth 100000 in
theorem ok_28 : mk_28.all (mg_chk 28) = true := by decide +kernel
set_option maxRecDepth 100000 in
theorem ok_29 : mk_29.all (mg_chk 29) = true := by decide +kernel
set_option maxRecDepth 100000 in
theorem ok_30 : mk_30.all (mg_chk 30) = true := by decide +kernel
set_option maxRecDepth 100000 in
theorem ok_31 : mk_31.all (mg_chk 31) = true := by decide +kernel
set_option maxRecDepth 100000 in
theorem ok_32 : mk_32.all (mg_chk 32) = true := by decide +kernel
set_option maxRecDepth 100000 in
theorem ok_33 : mk_33.all (mg_chk 33) = true := by decide +kernel
set_option maxRecDepth 100000 in
theorem ok_34 : mk_34.all (mg_chk 34) = true := by decide +kernel
set_option maxRecDepth 100000 in
theorem ok_35 : mk_35.all (mg_chk 35) = true := by decide +kernel
set_option maxRecDepth 100000 in
theorem ok_36 : mk_36.all (mg_chk 36) = true := by decide +kernel
