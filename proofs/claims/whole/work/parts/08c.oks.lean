set_option maxRecDepth 100000 in
theorem ok_74 : mk_74.all (mg_chk 74) = true := by decide +kernel
set_option maxRecDepth 100000 in
theorem ok_75 : mk_75.all (mg_chk 75) = true := by decide +kernel
set_option maxRecDepth 100000 in
theorem ok_76 : mk_76.all (mg_chk 76) = true := by decide +kernel
set_option maxRecDepth 100000 in
theorem ok_77 : mk_77.all (mg_chk 77) = true := by decide +kernel
set_option maxRecDepth 100000 in
theorem ok_78 : mk_78.all (mg_chk 78) = true := by decide +kernel
set_option maxRecDepth 100000 in
theorem ok_79 : mk_79.all (mg_chk 79) = true := by decide +kernel
set_option maxRecDepth 100000 in
theorem ok_80 : mk_80.all (mg_chk 80) = true := by decide +kernel
set_option maxRecDepth 100000 in
theorem ok_81 : mk_81.all (mg_chk 81) = true := by decide +kernel
set_option maxRecDepth 100000 in
theorem ok_82 : mk_82.all (mg_chk 82) = true := by decide +kernel
set_option maxRecDepth 100000 in
theorem ok_83 : mk_83.all (mg_chk 83) = true := by decide +kernel
set_option maxRecDepth 100000 in
theorem ok_84 : mk_84.all (mg_chk 84) = true := by decide +kernel
set_option maxRecDepth 100000 in
theorem ok_85 : mk_85.all (mg_chk 85) = true := by decide +kernel
set_option maxRecDepth 100000 in
theorem ok_86 : mk_86.all (mg_chk 86) = true := by decide +kernel
set_option maxRecDepth 100000 in
theorem ok_87 : mk_87.all (mg_chk 87) = true := by decide +kernel
set_option maxRecDepth 100000 in
theorem ok_88 : mk_88.all (mg_chk 88) = true := by decide +kernel
set_option maxRecDepth 100000 in
theorem ok_89 : mk_89.all (mg_chk 89) = true := by decide +kernel
set_option maxRecDepth 100000 in
theorem ok_90 : mk_90.all (mg_chk 90) = true := by decide +kernel
set_option maxRecDepth 100000 in
theorem ok_91 : mk_91.all (mg_chk 91) = true := by decide +kernel
set_option maxRecDepth 100000 in
theorem ok_92 : mk_92.all (mg_chk 92) = true := by decide +kernel
set_option maxRecDepth 100000 in
theorem ok_93 : mk_93.all (mg_chk 93) = true := by decide +kernel
set_option maxRecDepth 100000 in
theorem ok_94 : mk_94.all (mg_chk 94) = true := by decide +kernel
set_option maxRecDepth 100000 in
theorem ok_95 : mk_95.all (mg_chk 95) = true := by decide +kernel
set_option maxRecDepth 100000 in
theorem ok_96 : mk_96.all (mg_chk 96) = true := by decide +kernel
set_option maxRecDepth 100000 in
theorem ok_97 : mk_97.all (mg_chk 97) = true := by decide +kernel
set_option maxRecDepth 100000 in
theorem ok_98 : mk_98.all (mg_chk 98) = true := by decide +kernel
set_option maxRecDepth 100000 in
theorem ok_99 : mk_99.all (mg_chk 99) = true := by decide +kernel
set_option maxRecDepth 100000 in
theorem ok_100 : mk_100.all (mg_chk 100) = true := by decide +kernel
set_option maxRecDepth 100000 in
theorem ok_101 : mk_101.all (mg_chk 101) = true := by decide +kernel
set_option maxRecDepth 100000 in
theorem ok_102 : mk_102.all (mg_chk 102) = true := by decide +kernel
set_option maxRecDepth 100000 in
theorem ok_103 : mk_103.all (mg_chk 103) = true := by decide +kernel
set_option maxRecDepth 100000 in
theorem ok_104 : mk_104.all (mg_chk 104) = true := by decide +kernel
set_option maxRecDepth 100000 in
theorem ok_105 : mk_105.all (mg_chk 105) = true := by decide +kernel
set_option maxRecDepth 100000 in
theorem ok_106 : mk_106.all (mg_chk 106) = true := by decide +kernel
set_option maxRecDepth 100000 in
theorem ok_107 : mk_107.all (mg_chk 107) = true := by decide +kernel
set_option maxRecDepth 100000 in
theorem ok_108 : mk_108.all (mg_chk 108) = true := by decide +kernel
set_option maxRecDepth 100000 in
theorem ok_109 : mk_109.all (mg_chk 109) = true := by decide +kernel
set_option maxRecDepth 100000 in
theorem ok_110 : mk_110.all (mg_chk 110) = true := by decide +kernel
