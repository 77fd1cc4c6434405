set_option maxRecDepth 100000 in
theorem ok_37 : mk_37.all (mg_chk 37) = true := by decide +kernel
set_option maxRecDepth 100000 in
theorem ok_38 : mk_38.all (mg_chk 38) = true := by decide +kernel
set_option maxRecDepth 100000 in
theorem ok_39 : mk_39.all (mg_chk 39) = true := by decide +kernel
set_option maxRecDepth 100000 in
theorem ok_40 : mk_40.all (mg_chk 40) = true := by decide +kernel
set_option maxRecDepth 100000 in
theorem ok_41 : mk_41.all (mg_chk 41) = true := by decide +kernel
set_option maxRecDepth 100000 in
theorem ok_42 : mk_42.all (mg_chk 42) = true := by decide +kernel
set_option maxRecDepth 100000 in
theorem ok_43 : mk_43.all (mg_chk 43) = true := by decide +kernel
set_option maxRecDepth 100000 in
theorem ok_44 : mk_44.all (mg_chk 44) = true := by decide +kernel
set_option maxRecDepth 100000 in
theorem ok_45 : mk_45.all (mg_chk 45) = true := by decide +kernel
set_option maxRecDepth 100000 in
theorem ok_46 : mk_46.all (mg_chk 46) = true := by decide +kernel
set_option maxRecDepth 100000 in
theorem ok_47 : mk_47.all (mg_chk 47) = true := by decide +kernel
set_option maxRecDepth 100000 in
theorem ok_48 : mk_48.all (mg_chk 48) = true := by decide +kernel
set_option maxRecDepth 100000 in
theorem ok_49 : mk_49.all (mg_chk 49) = true := by decide +kernel
set_option maxRecDepth 100000 in
theorem ok_50 : mk_50.all (mg_chk 50) = true := by decide +kernel
set_option maxRecDepth 100000 in
theorem ok_51 : mk_51.all (mg_chk 51) = true := by decide +kernel
set_option maxRecDepth 100000 in
theorem ok_52 : mk_52.all (mg_chk 52) = true := by decide +kernel
set_option maxRecDepth 100000 in
theorem ok_53 : mk_53.all (mg_chk 53) = true := by decide +kernel
set_option maxRecDepth 100000 in
theorem ok_54 : mk_54.all (mg_chk 54) = true := by decide +kernel
set_option maxRecDepth 100000 in
theorem ok_55 : mk_55.all (mg_chk 55) = true := by decide +kernel
set_option maxRecDepth 100000 in
theorem ok_56 : mk_56.all (mg_chk 56) = true := by decide +kernel
set_option maxRecDepth 100000 in
theorem ok_57 : mk_57.all (mg_chk 57) = true := by decide +kernel
set_option maxRecDepth 100000 in
theorem ok_58 : mk_58.all (mg_chk 58) = true := by decide +kernel
set_option maxRecDepth 100000 in
theorem ok_59 : mk_59.all (mg_chk 59) = true := by decide +kernel
set_option maxRecDepth 100000 in
theorem ok_60 : mk_60.all (mg_chk 60) = true := by decide +kernel
set_option maxRecDepth 100000 in
theorem ok_61 : mk_61.all (mg_chk 61) = true := by decide +kernel
set_option maxRecDepth 100000 in
theorem ok_62 : mk_62.all (mg_chk 62) = true := by decide +kernel
set_option maxRecDepth 100000 in
theorem ok_63 : mk_63.all (mg_chk 63) = true := by decide +kernel
set_option maxRecDepth 100000 in
theorem ok_64 : mk_64.all (mg_chk 64) = true := by decide +kernel
set_option maxRecDepth 100000 in
theorem ok_65 : mk_65.all (mg_chk 65) = true := by decide +kernel
set_option maxRecDepth 100000 in
theorem ok_66 : mk_66.all (mg_chk 66) = true := by decide +kernel
set_option maxRecDepth 100000 in
theorem ok_67 : mk_67.all (mg_chk 67) = true := by decide +kernel
set_option maxRecDepth 100000 in
theorem ok_68 : mk_68.all (mg_chk 68) = true := by decide +kernel
set_option maxRecDepth 100000 in
theorem ok_69 : mk_69.all (mg_chk 69) = true := by decide +kernel
set_option maxRecDepth 100000 in
theorem ok_70 : mk_70.all (mg_chk 70) = true := by decide +kernel
set_option maxRecDepth 100000 in
theorem ok_71 : mk_71.all (mg_chk 71) = true := by decide +kernel
set_option maxRecDepth 100000 in
theorem ok_72 : mk_72.all (mg_chk 72) = true := by decide +kernel
set_option maxRecDepth 100000 in
theorem ok_73 : mk_73.all (mg_chk 73) = true := by decide +kernel
