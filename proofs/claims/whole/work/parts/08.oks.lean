set_option maxRecDepth 100000 in
theorem ok_0 : mk_0.all (mg_chk 0) = true := by decide +kernel
set_option maxRecDepth 100000 in
theorem ok_1 : mk_1.all (mg_chk 1) = true := by decide +kernel
set_option maxRecDepth 100000 in
theorem ok_2 : mk_2.all (mg_chk 2) = true := by decide +kernel
set_option maxRecDepth 100000 in
theorem ok_3 : mk_3.all (mg_chk 3) = true := by decide +kernel
set_option maxRecDepth 100000 in
theorem ok_4 : mk_4.all (mg_chk 4) = true := by decide +kernel
set_option maxRecDepth 100000 in
theorem ok_5 : mk_5.all (mg_chk 5) = true := by decide +kernel
set_option maxRecDepth 100000 in
theorem ok_6 : mk_6.all (mg_chk 6) = true := by decide +kernel
set_option maxRecDepth 100000 in
theorem ok_7 : mk_7.all (mg_chk 7) = true := by decide +kernel
set_option maxRecDepth 100000 in
theorem ok_8 : mk_8.all (mg_chk 8) = true := by decide +kernel
set_option maxRecDepth 100000 in
theorem ok_9 : mk_9.all (mg_chk 9) = true := by decide +kernel
set_option maxRecDepth 100000 in
theorem ok_10 : mk_10.all (mg_chk 10) = true := by decide +kernel
set_option maxRecDepth 100000 in
theorem ok_11 : mk_11.all (mg_chk 11) = true := by decide +kernel
set_option maxRecDepth 100000 in
theorem ok_12 : mk_12.all (mg_chk 12) = true := by decide +kernel
set_option maxRecDepth 100000 in
theorem ok_13 : mk_13.all (mg_chk 13) = true := by decide +kernel
set_option maxRecDepth 100000 in
theorem ok_14 : mk_14.all (mg_chk 14) = true := by decide +kernel
set_option maxRecDepth 100000 in
theorem ok_15 : mk_15.all (mg_chk 15) = true := by decide +kernel
set_option maxRecDepth 100000 in
theorem ok_16 : mk_16.all (mg_chk 16) = true := by decide +kernel
set_option maxRecDepth 100000 in
theorem ok_17 : mk_17.all (mg_chk 17) = true := by decide +kernel
set_option maxRecDepth 100000 in
theorem ok_18 : mk_18.all (mg_chk 18) = true := by decide +kernel
set_option maxRecDepth 100000 in
theorem ok_19 : mk_19.all (mg_chk 19) = true := by decide +kernel
set_option maxRecDepth 100000 in
theorem ok_20 : mk_20.all (mg_chk 20) = true := by decide +kernel
set_option maxRecDepth 100000 in
theorem ok_21 : mk_21.all (mg_chk 21) = true := by decide +kernel
set_option maxRecDepth 100000 in
theorem ok_22 : mk_22.all (mg_chk 22) = true := by decide +kernel
set_option maxRecDepth 100000 in
theorem ok_23 : mk_23.all (mg_chk 23) = true := by decide +kernel
set_option maxRecDepth 100000 in
theorem ok_24 : mk_24.all (mg_chk 24) = true := by decide +kernel
set_option maxRecDepth 100000 in
theorem ok_25 : mk_25.all (mg_chk 25) = true := by decide +kernel
set_option maxRecDepth 100000 in
theorem ok_26 : mk_26.all (mg_chk 26) = true := by decide +kernel
set_option maxRecDepth 100000 in
theorem ok_27 : mk_27.all (mg_chk 27) = true := by decide +kernel
set_option maxRecDepth 100000 in
theorem ok_28 : mk_28.all (mg_chk 28) = true := by decide +kernel
set_option maxRecDepth 100000 in
theorem ok_29 : mk_29.all (mg_chk 29) = true := by decide +kernel
set_option maxRecDepth 100000 in
theorem ok_30 : mk_30.all (mg_chk 30) = true := by decide +kernel
set_option maxRecDepth 100000 in
theorem ok_31 : mk_31.all (mg_chk 31) = true := by decide +kernel
set_option maxRecDepth 100000 in
theorem ok_32 : mk_32.all (mg_chk 32) = true := by decide +kernel
set_option maxRecDepth 100000 in
theorem ok_33 : mk_33.all (mg_chk 33) = true := by decide +kernel
set_option maxRecDepth 100000 in
theorem ok_34 : mk_34.all (mg_chk 34) = true := by decide +kernel
set_option maxRecDepth 100000 in
theorem ok_35 : mk_35.all (mg_chk 35) = true := by decide +kernel
set_option maxRecDepth 100000 in
theorem ok_36 : mk_36.all (mg_chk 36) = true := by decide +kernel
set_option maxRecDepth 100000 in
theorem ok_37 : mk_37.all (mg_chk 37) = true := by decide +kernel
set_option maxRecDepth 100000 in
theorem ok_38 : mk_38.all (mg_chk 38) = true := by decide +kernel
set_option maxRecDepth 100000 in
theorem ok_39 : mk_39.all (mg_chk 39) = true := by decide +kernel
set_option maxRecDepth 100000 in
theorem ok_40 : mk_40.all (mg_chk 40) = true := by decide +kernel
set_option maxRecDepth 100000 in
theorem ok_41 : mk_41.all (mg_chk 41) = true := by decide +kernel
set_option maxRecDepth 100000 in
theorem ok_42 : mk_42.all (mg_chk 42) = true := by decide +kernel
set_option maxRecDepth 100000 in
theorem ok_43 : mk_43.all (mg_chk 43) = true := by decide +kernel
set_option maxRecDepth 100000 in
theorem ok_44 : mk_44.all (mg_chk 44) = true := by decide +kernel
set_option maxRecDepth 100000 in
theorem ok_45 : mk_45.all (mg_chk 45) = true := by decide +kernel
set_option maxRecDepth 100000 in
theorem ok_46 : mk_46.all (mg_chk 46) = true := by decide +kernel
set_option maxRecDepth 100000 in
theorem ok_47 : mk_47.all (mg_chk 47) = true := by decide +kernel
set_option maxRecDepth 100000 in
theorem ok_48 : mk_48.all (mg_chk 48) = true := by decide +kernel
set_option maxRecDepth 100000 in
theorem ok_49 : mk_49.all (mg_chk 49) = true := by decide +kernel
set_option maxRecDepth 100000 in
theorem ok_50 : mk_50.all (mg_chk 50) = true := by decide +kernel
set_option maxRecDepth 100000 in
theorem ok_51 : mk_51.all (mg_chk 51) = true := by decide +kernel
set_option maxRecDepth 100000 in
theorem ok_52 : mk_52.all (mg_chk 52) = true := by decide +kernel
set_option maxRecDepth 100000 in
theorem ok_53 : mk_53.all (mg_chk 53) = true := by decide +kernel
set_option maxRecDepth 100000 in
theorem ok_54 : mk_54.all (mg_chk 54) = true := by decide +kernel
set_option maxRecDepth 100000 in
theorem ok_55 : mk_55.all (mg_chk 55) = true := by decide +kernel
set_option maxRecDepth 100000 in
theorem ok_56 : mk_56.all (mg_chk 56) = true := by decide +kernel
set_option maxRecDepth 100000 in
theorem ok_57 : mk_57.all (mg_chk 57) = true := by decide +kernel
set_option maxRecDepth 100000 in
theorem ok_58 : mk_58.all (mg_chk 58) = true := by decide +kernel
set_option maxRecDepth 100000 in
theorem ok_59 : mk_59.all (mg_chk 59) = true := by decide +kernel
set_option maxRecDepth 100000 in
theorem ok_60 : mk_60.all (mg_chk 60) = true := by decide +kernel
set_option maxRecDepth 100000 in
theorem ok_61 : mk_61.all (mg_chk 61) = true := by decide +kernel
set_option maxRecDepth 100000 in
theorem ok_62 : mk_62.all (mg_chk 62) = true := by decide +kernel
set_option maxRecDepth 100000 in
theorem ok_63 : mk_63.all (mg_chk 63) = true := by decide +kernel
set_option maxRecDepth 100000 in
theorem ok_64 : mk_64.all (mg_chk 64) = true := by decide +kernel
set_option maxRecDepth 100000 in
theorem ok_65 : mk_65.all (mg_chk 65) = true := by decide +kernel
set_option maxRecDepth 100000 in
theorem ok_66 : mk_66.all (mg_chk 66) = true := by decide +kernel
set_option maxRecDepth 100000 in
theorem ok_67 : mk_67.all (mg_chk 67) = true := by decide +kernel
set_option maxRecDepth 100000 in
theorem ok_68 : mk_68.all (mg_chk 68) = true := by decide +kernel
set_option maxRecDepth 100000 in
theorem ok_69 : mk_69.all (mg_chk 69) = true := by decide +kernel
set_option maxRecDepth 100000 in
theorem ok_70 : mk_70.all (mg_chk 70) = true := by decide +kernel
set_option maxRecDepth 100000 in
theorem ok_71 : mk_71.all (mg_chk 71) = true := by decide +kernel
set_option maxRecDepth 100000 in
theorem ok_72 : mk_72.all (mg_chk 72) = true := by decide +kernel
set_option maxRecDepth 100000 in
theorem ok_73 : mk_73.all (mg_chk 73) = true := by decide +kernel
set_option maxRecDepth 100000 in
theorem ok_74 : mk_74.all (mg_chk 74) = true := by decide +kernel
set_option maxRecDepth 100000 in
theorem ok_75 : mk_75.all (mg_chk 75) = true := by decide +kernel
set_option maxRecDepth 100000 in
theorem ok_76 : mk_76.all (mg_chk 76) = true := by decide +kernel
set_option maxRecDepth 100000 in
theorem ok_77 : mk_77.all (mg_chk 77) = true := by decide +kernel
set_option maxRecDepth 100000 in
theorem ok_78 : mk_78.all (mg_chk 78) = true := by decide +kernel
set_option maxRecDepth 100000 in
theorem ok_79 : mk_79.all (mg_chk 79) = true := by decide +kernel
set_option maxRecDepth 100000 in
theorem ok_80 : mk_80.all (mg_chk 80) = true := by decide +kernel
set_option maxRecDepth 100000 in
theorem ok_81 : mk_81.all (mg_chk 81) = true := by decide +kernel
set_option maxRecDepth 100000 in
theorem ok_82 : mk_82.all (mg_chk 82) = true := by decide +kernel
set_option maxRecDepth 100000 in
theorem ok_83 : mk_83.all (mg_chk 83) = true := by decide +kernel
set_option maxRecDepth 100000 in
theorem ok_84 : mk_84.all (mg_chk 84) = true := by decide +kernel
set_option maxRecDepth 100000 in
theorem ok_85 : mk_85.all (mg_chk 85) = true := by decide +kernel
set_option maxRecDepth 100000 in
theorem ok_86 : mk_86.all (mg_chk 86) = true := by decide +kernel
set_option maxRecDepth 100000 in
theorem ok_87 : mk_87.all (mg_chk 87) = true := by decide +kernel
set_option maxRecDepth 100000 in
theorem ok_88 : mk_88.all (mg_chk 88) = true := by decide +kernel
set_option maxRecDepth 100000 in
theorem ok_89 : mk_89.all (mg_chk 89) = true := by decide +kernel
set_option maxRecDepth 100000 in
theorem ok_90 : mk_90.all (mg_chk 90) = true := by decide +kernel
set_option maxRecDepth 100000 in
theorem ok_91 : mk_91.all (mg_chk 91) = true := by decide +kernel
set_option maxRecDepth 100000 in
theorem ok_92 : mk_92.all (mg_chk 92) = true := by decide +kernel
set_option maxRecDepth 100000 in
theorem ok_93 : mk_93.all (mg_chk 93) = true := by decide +kernel
set_option maxRecDepth 100000 in
theorem ok_94 : mk_94.all (mg_chk 94) = true := by decide +kernel
set_option maxRecDepth 100000 in
theorem ok_95 : mk_95.all (mg_chk 95) = true := by decide +kernel
set_option maxRecDepth 100000 in
theorem ok_96 : mk_96.all (mg_chk 96) = true := by decide +kernel
set_option maxRecDepth 100000 in
theorem ok_97 : mk_97.all (mg_chk 97) = true := by decide +kernel
set_option maxRecDepth 100000 in
theorem ok_98 : mk_98.all (mg_chk 98) = true := by decide +kernel
set_option maxRecDepth 100000 in
theorem ok_99 : mk_99.all (mg_chk 99) = true := by decide +kernel
set_option maxRecDepth 100000 in
theorem ok_100 : mk_100.all (mg_chk 100) = true := by decide +kernel
set_option maxRecDepth 100000 in
theorem ok_101 : mk_101.all (mg_chk 101) = true := by decide +kernel
set_option maxRecDepth 100000 in
theorem ok_102 : mk_102.all (mg_chk 102) = true := by decide +kernel
set_option maxRecDepth 100000 in
theorem ok_103 : mk_103.all (mg_chk 103) = true := by decide +kernel
set_option maxRecDepth 100000 in
theorem ok_104 : mk_104.all (mg_chk 104) = true := by decide +kernel
set_option maxRecDepth 100000 in
theorem ok_105 : mk_105.all (mg_chk 105) = true := by decide +kernel
set_option maxRecDepth 100000 in
theorem ok_106 : mk_106.all (mg_chk 106) = true := by decide +kernel
set_option maxRecDepth 100000 in
theorem ok_107 : mk_107.all (mg_chk 107) = true := by decide +kernel
set_option maxRecDepth 100000 in
theorem ok_108 : mk_108.all (mg_chk 108) = true := by decide +kernel
set_option maxRecDepth 100000 in
theorem ok_109 : mk_109.all (mg_chk 109) = true := by decide +kernel
set_option maxRecDepth 100000 in
theorem ok_110 : mk_110.all (mg_chk 110) = true := by decide +kernel
set_option maxRecDepth 100000 in
theorem ok_111 : mk_111.all (mg_chk 111) = true := by decide +kernel
set_option maxRecDepth 100000 in
theorem ok_112 : mk_112.all (mg_chk 112) = true := by decide +kernel
set_option maxRecDepth 100000 in
theorem ok_113 : mk_113.all (mg_chk 113) = true := by decide +kernel
set_option maxRecDepth 100000 in
theorem ok_114 : mk_114.all (mg_chk 114) = true := by decide +kernel
set_option maxRecDepth 100000 in
theorem ok_115 : mk_115.all (mg_chk 115) = true := by decide +kernel
set_option maxRecDepth 100000 in
theorem ok_116 : mk_116.all (mg_chk 116) = true := by decide +kernel
set_option maxRecDepth 100000 in
theorem ok_117 : mk_117.all (mg_chk 117) = true := by decide +kernel
set_option maxRecDepth 100000 in
theorem ok_118 : mk_118.all (mg_chk 118) = true := by decide +kernel
set_option maxRecDepth 100000 in
theorem ok_119 : mk_119.all (mg_chk 119) = true := by decide +kernel
set_option maxRecDepth 100000 in
theorem ok_120 : mk_120.all (mg_chk 120) = true := by decide +kernel
set_option maxRecDepth 100000 in
theorem ok_121 : mk_121.all (mg_chk 121) = true := by decide +kernel
set_option maxRecDepth 100000 in
theorem ok_122 : mk_122.all (mg_chk 122) = true := by decide +kernel
set_option maxRecDepth 100000 in
theorem ok_123 : mk_123.all (mg_chk 123) = true := by decide +kernel
set_option maxRecDepth 100000 in
theorem ok_124 : mk_124.all (mg_chk 124) = true := by decide +kernel
set_option maxRecDepth 100000 in
theorem ok_125 : mk_125.all (mg_chk 125) = true := by decide +kernel
set_option maxRecDepth 100000 in
theorem ok_126 : mk_126.all (mg_chk 126) = true := by decide +kernel
set_option maxRecDepth 100000 in
theorem ok_127 : mk_127.all (mg_chk 127) = true := by decide +kernel
set_option maxRecDepth 100000 in
theorem ok_128 : mk_128.all (mg_chk 128) = true := by decide +kernel
set_option maxRecDepth 100000 in
theorem ok_129 : mk_129.all (mg_chk 129) = true := by decide +kernel
set_option maxRecDepth 100000 in
theorem ok_130 : mk_130.all (mg_chk 130) = true := by decide +kernel
set_option maxRecDepth 100000 in
theorem ok_131 : mk_131.all (mg_chk 131) = true := by decide +kernel
set_option maxRecDepth 100000 in
theorem ok_132 : mk_132.all (mg_chk 132) = true := by decide +kernel
set_option maxRecDepth 100000 in
theorem ok_133 : mk_133.all (mg_chk 133) = true := by decide +kernel
set_option maxRecDepth 100000 in
theorem ok_134 : mk_134.all (mg_chk 134) = true := by decide +kernel
set_option maxRecDepth 100000 in
theorem ok_135 : mk_135.all (mg_chk 135) = true := by decide +kernel
set_option maxRecDepth 100000 in
theorem ok_136 : mk_136.all (mg_chk 136) = true := by decide +kernel
set_option maxRecDepth 100000 in
theorem ok_137 : mk_137.all (mg_chk 137) = true := by decide +kernel
set_option maxRecDepth 100000 in
theorem ok_138 : mk_138.all (mg_chk 138) = true := by decide +kernel
set_option maxRecDepth 100000 in
theorem ok_139 : mk_139.all (mg_chk 139) = true := by decide +kernel
set_option maxRecDepth 100000 in
theorem ok_140 : mk_140.all (mg_chk 140) = true := by decide +kernel
set_option maxRecDepth 100000 in
theorem ok_141 : mk_141.all (mg_chk 141) = true := by decide +kernel
set_option maxRecDepth 100000 in
theorem ok_142 : mk_142.all (mg_chk 142) = true := by decide +kernel
set_option maxRecDepth 100000 in
theorem ok_143 : mk_143.all (mg_chk 143) = true := by decide +kernel
set_option maxRecDepth 100000 in
theorem ok_144 : mk_144.all (mg_chk 144) = true := by decide +kernel
set_option maxRecDepth 100000 in
theorem ok_145 : mk_145.all (mg_chk 145) = true := by decide +kernel
set_option maxRecDepth 100000 in
theorem ok_146 : mk_146.all (mg_chk 146) = true := by decide +kernel
set_option maxRecDepth 100000 in
theorem ok_147 : mk_147.all (mg_chk 147) = true := by decide +kernel
set_option maxRecDepth 100000 in
theorem ok_148 : mk_148.all (mg_chk 148) = true := by decide +kernel
set_option maxRecDepth 100000 in
theorem ok_149 : mk_149.all (mg_chk 149) = true := by decide +kernel
set_option maxRecDepth 100000 in
theorem ok_150 : mk_150.all (mg_chk 150) = true := by decide +kernel
set_option maxRecDepth 100000 in
theorem ok_151 : mk_151.all (mg_chk 151) = true := by decide +kernel
set_option maxRecDepth 100000 in
theorem ok_152 : mk_152.all (mg_chk 152) = true := by decide +kernel
set_option maxRecDepth 100000 in
theorem ok_153 : mk_153.all (mg_chk 153) = true := by decide +kernel
set_option maxRecDepth 100000 in
theorem ok_154 : mk_154.all (mg_chk 154) = true := by decide +kernel
set_option maxRecDepth 100000 in
theorem ok_155 : mk_155.all (mg_chk 155) = true := by decide +kernel
set_option maxRecDepth 100000 in
theorem ok_156 : mk_156.all (mg_chk 156) = true := by decide +kernel
set_option maxRecDepth 100000 in
theorem ok_157 : mk_157.all (mg_chk 157) = true := by decide +kernel
set_option maxRecDepth 100000 in
theorem ok_158 : mk_158.all (mg_chk 158) = true := by decide +kernel
set_option maxRecDepth 100000 in
theorem ok_159 : mk_159.all (mg_chk 159) = true := by decide +kernel
set_option maxRecDepth 100000 in
theorem ok_160 : mk_160.all (mg_chk 160) = true := by decide +kernel
set_option maxRecDepth 100000 in
theorem ok_161 : mk_161.all (mg_chk 161) = true := by decide +kernel
set_option maxRecDepth 100000 in
theorem ok_162 : mk_162.all (mg_chk 162) = true := by decide +kernel
set_option maxRecDepth 100000 in
theorem ok_163 : mk_163.all (mg_chk 163) = true := by decide +kernel
set_option maxRecDepth 100000 in
theorem ok_164 : mk_164.all (mg_chk 164) = true := by decide +kernel
set_option maxRecDepth 100000 in
theorem ok_165 : mk_165.all (mg_chk 165) = true := by decide +kernel
set_option maxRecDepth 100000 in
theorem ok_166 : mk_166.all (mg_chk 166) = true := by decide +kernel
set_option maxRecDepth 100000 in
theorem ok_167 : mk_167.all (mg_chk 167) = true := by decide +kernel
set_option maxRecDepth 100000 in
theorem ok_168 : mk_168.all (mg_chk 168) = true := by decide +kernel
set_option maxRecDepth 100000 in
theorem ok_169 : mk_169.all (mg_chk 169) = true := by decide +kernel
set_option maxRecDepth 100000 in
theorem ok_170 : mk_170.all (mg_chk 170) = true := by decide +kernel
set_option maxRecDepth 100000 in
theorem ok_171 : mk_171.all (mg_chk 171) = true := by decide +kernel
set_option maxRecDepth 100000 in
theorem ok_172 : mk_172.all (mg_chk 172) = true := by decide +kernel
set_option maxRecDepth 100000 in
theorem ok_173 : mk_173.all (mg_chk 173) = true := by decide +kernel
set_option maxRecDepth 100000 in
theorem ok_174 : mk_174.all (mg_chk 174) = true := by decide +kernel
set_option maxRecDepth 100000 in
theorem ok_175 : mk_175.all (mg_chk 175) = true := by decide +kernel
set_option maxRecDepth 100000 in
theorem ok_176 : mk_176.all (mg_chk 176) = true := by decide +kernel
set_option maxRecDepth 100000 in
theorem ok_177 : mk_177.all (mg_chk 177) = true := by decide +kernel
set_option maxRecDepth 100000 in
theorem ok_178 : mk_178.all (mg_chk 178) = true := by decide +kernel
set_option maxRecDepth 100000 in
theorem ok_179 : mk_179.all (mg_chk 179) = true := by decide +kernel
set_option maxRecDepth 100000 in
theorem ok_180 : mk_180.all (mg_chk 180) = true := by decide +kernel
set_option maxRecDepth 100000 in
theorem ok_181 : mk_181.all (mg_chk 181) = true := by decide +kernel
set_option maxRecDepth 100000 in
theorem ok_182 : mk_182.all (mg_chk 182) = true := by decide +kernel
set_option maxRecDepth 100000 in
theorem ok_183 : mk_183.all (mg_chk 183) = true := by decide +kernel
set_option maxRecDepth 100000 in
theorem ok_184 : mk_184.all (mg_chk 184) = true := by decide +kernel
set_option maxRecDepth 100000 in
theorem ok_185 : mk_185.all (mg_chk 185) = true := by decide +kernel
set_option maxRecDepth 100000 in
theorem ok_186 : mk_186.all (mg_chk 186) = true := by decide +kernel
set_option maxRecDepth 100000 in
theorem ok_187 : mk_187.all (mg_chk 187) = true := by decide +kernel
set_option maxRecDepth 100000 in
theorem ok_188 : mk_188.all (mg_chk 188) = true := by decide +kernel
set_option maxRecDepth 100000 in
theorem ok_189 : mk_189.all (mg_chk 189) = true := by decide +kernel
set_option maxRecDepth 100000 in
theorem ok_190 : mk_190.all (mg_chk 190) = true := by decide +kernel
set_option maxRecDepth 100000 in
theorem ok_191 : mk_191.all (mg_chk 191) = true := by decide +kernel
set_option maxRecDepth 100000 in
theorem ok_192 : mk_192.all (mg_chk 192) = true := by decide +kernel
set_option maxRecDepth 100000 in
theorem ok_193 : mk_193.all (mg_chk 193) = true := by decide +kernel
set_option maxRecDepth 100000 in
theorem ok_194 : mk_194.all (mg_chk 194) = true := by decide +kernel
set_option maxRecDepth 100000 in
theorem ok_195 : mk_195.all (mg_chk 195) = true := by decide +kernel
set_option maxRecDepth 100000 in
theorem ok_196 : mk_196.all (mg_chk 196) = true := by decide +kernel
set_option maxRecDepth 100000 in
theorem ok_197 : mk_197.all (mg_chk 197) = true := by decide +kernel
set_option maxRecDepth 100000 in
theorem ok_198 : mk_198.all (mg_chk 198) = true := by decide +kernel
set_option maxRecDepth 100000 in
theorem ok_199 : mk_199.all (mg_chk 199) = true := by decide +kernel
set_option maxRecDepth 100000 in
theorem ok_200 : mk_200.all (mg_chk 200) = true := by decide +kernel
set_option maxRecDepth 100000 in
theorem ok_201 : mk_201.all (mg_chk 201) = true := by decide +kernel
set_option maxRecDepth 100000 in
theorem ok_202 : mk_202.all (mg_chk 202) = true := by decide +kernel
set_option maxRecDepth 100000 in
theorem ok_203 : mk_203.all (mg_chk 203) = true := by decide +kernel
set_option maxRecDepth 100000 in
theorem ok_204 : mk_204.all (mg_chk 204) = true := by decide +kernel
set_option maxRecDepth 100000 in
theorem ok_205 : mk_205.all (mg_chk 205) = true := by decide +kernel
set_option maxRecDepth 100000 in
theorem ok_206 : mk_206.all (mg_chk 206) = true := by decide +kernel
set_option maxRecDepth 100000 in
theorem ok_207 : mk_207.all (mg_chk 207) = true := by decide +kernel
set_option maxRecDepth 100000 in
theorem ok_208 : mk_208.all (mg_chk 208) = true := by decide +kernel
set_option maxRecDepth 100000 in
theorem ok_209 : mk_209.all (mg_chk 209) = true := by decide +kernel
set_option maxRecDepth 100000 in
theorem ok_210 : mk_210.all (mg_chk 210) = true := by decide +kernel
set_option maxRecDepth 100000 in
theorem ok_211 : mk_211.all (mg_chk 211) = true := by decide +kernel
set_option maxRecDepth 100000 in
theorem ok_212 : mk_212.all (mg_chk 212) = true := by decide +kernel
set_option maxRecDepth 100000 in
theorem ok_213 : mk_213.all (mg_chk 213) = true := by decide +kernel
set_option maxRecDepth 100000 in
theorem ok_214 : mk_214.all (mg_chk 214) = true := by decide +kernel
set_option maxRecDepth 100000 in
theorem ok_215 : mk_215.all (mg_chk 215) = true := by decide +kernel
set_option maxRecDepth 100000 in
theorem ok_216 : mk_216.all (mg_chk 216) = true := by decide +kernel
set_option maxRecDepth 100000 in
theorem ok_217 : mk_217.all (mg_chk 217) = true := by decide +kernel
set_option maxRecDepth 100000 in
theorem ok_218 : mk_218.all (mg_chk 218) = true := by decide +kernel
set_option maxRecDepth 100000 in
theorem ok_219 : mk_219.all (mg_chk 219) = true := by decide +kernel
set_option maxRecDepth 100000 in
theorem ok_220 : mk_220.all (mg_chk 220) = true := by decide +kernel
set_option maxRecDepth 100000 in
theorem ok_221 : mk_221.all (mg_chk 221) = true := by decide +kernel
set_option maxRecDepth 100000 in
theorem ok_222 : mk_222.all (mg_chk 222) = true := by decide +kernel
set_option maxRecDepth 100000 in
theorem ok_223 : mk_223.all (mg_chk 223) = true := by decide +kernel
set_option maxRecDepth 100000 in
theorem ok_224 : mk_224.all (mg_chk 224) = true := by decide +kernel
set_option maxRecDepth 100000 in
theorem ok_225 : mk_225.all (mg_chk 225) = true := by decide +kernel
set_option maxRecDepth 100000 in
theorem ok_226 : mk_226.all (mg_chk 226) = true := by decide +kernel
set_option maxRecDepth 100000 in
theorem ok_227 : mk_227.all (mg_chk 227) = true := by decide +kernel
set_option maxRecDepth 100000 in
theorem ok_228 : mk_228.all (mg_chk 228) = true := by decide +kernel
set_option maxRecDepth 100000 in
theorem ok_229 : mk_229.all (mg_chk 229) = true := by decide +kernel
set_option maxRecDepth 100000 in
theorem ok_230 : mk_230.all (mg_chk 230) = true := by decide +kernel
set_option maxRecDepth 100000 in
theorem ok_231 : mk_231.all (mg_chk 231) = true := by decide +kernel
set_option maxRecDepth 100000 in
theorem ok_232 : mk_232.all (mg_chk 232) = true := by decide +kernel
set_option maxRecDepth 100000 in
theorem ok_233 : mk_233.all (mg_chk 233) = true := by decide +kernel
set_option maxRecDepth 100000 in
theorem ok_234 : mk_234.all (mg_chk 234) = true := by decide +kernel
set_option maxRecDepth 100000 in
theorem ok_235 : mk_235.all (mg_chk 235) = true := by decide +kernel
set_option maxRecDepth 100000 in
theorem ok_236 : mk_236.all (mg_chk 236) = true := by decide +kernel
set_option maxRecDepth 100000 in
theorem ok_237 : mk_237.all (mg_chk 237) = true := by decide +kernel
set_option maxRecDepth 100000 in
theorem ok_238 : mk_238.all (mg_chk 238) = true := by decide +kernel
set_option maxRecDepth 100000 in
theorem ok_239 : mk_239.all (mg_chk 239) = true := by decide +kernel
set_option maxRecDepth 100000 in
theorem ok_240 : mk_240.all (mg_chk 240) = true := by decide +kernel
set_option maxRecDepth 100000 in
theorem ok_241 : mk_241.all (mg_chk 241) = true := by decide +kernel
set_option maxRecDepth 100000 in
theorem ok_242 : mk_242.all (mg_chk 242) = true := by decide +kernel
set_option maxRecDepth 100000 in
theorem ok_243 : mk_243.all (mg_chk 243) = true := by decide +kernel
set_option maxRecDepth 100000 in
theorem ok_244 : mk_244.all (mg_chk 244) = true := by decide +kernel
set_option maxRecDepth 100000 in
theorem ok_245 : mk_245.all (mg_chk 245) = true := by decide +kernel
set_option maxRecDepth 100000 in
theorem ok_246 : mk_246.all (mg_chk 246) = true := by decide +kernel
set_option maxRecDepth 100000 in
theorem ok_247 : mk_247.all (mg_chk 247) = true := by decide +kernel
set_option maxRecDepth 100000 in
theorem ok_248 : mk_248.all (mg_chk 248) = true := by decide +kernel
set_option maxRecDepth 100000 in
theorem ok_249 : mk_249.all (mg_chk 249) = true := by decide +kernel
set_option maxRecDepth 100000 in
theorem ok_250 : mk_250.all (mg_chk 250) = true := by decide +kernel
set_option maxRecDepth 100000 in
theorem ok_251 : mk_251.all (mg_chk 251) = true := by decide +kernel
set_option maxRecDepth 100000 in
theorem ok_252 : mk_252.all (mg_chk 252) = true := by decide +kernel
set_option maxRecDepth 100000 in
theorem ok_253 : mk_253.all (mg_chk 253) = true := by decide +kernel
set_option maxRecDepth 100000 in
theorem ok_254 : mk_254.all (mg_chk 254) = true := by decide +kernel
set_option maxRecDepth 100000 in
theorem ok_255 : mk_255.all (mg_chk 255) = true := by decide +kernel
set_option maxRecDepth 100000 in
theorem ok_256 : mk_256.all (mg_chk 256) = true := by decide +kernel
set_option maxRecDepth 100000 in
theorem ok_257 : mk_257.all (mg_chk 257) = true := by decide +kernel
set_option maxRecDepth 100000 in
theorem ok_258_0 : mk_258_0.all (mg_chk 258) = true := by decide +kernel
set_option maxRecDepth 100000 in
theorem ok_258_1 : mk_258_1.all (mg_chk 258) = true := by decide +kernel
set_option maxRecDepth 100000 in
theorem ok_258_2 : mk_258_2.all (mg_chk 258) = true := by decide +kernel
set_option maxRecDepth 100000 in
theorem ok_258_3 : mk_258_3.all (mg_chk 258) = true := by decide +kernel
set_option maxRecDepth 100000 in
theorem ok_258_4 : mk_258_4.all (mg_chk 258) = true := by decide +kernel
set_option maxRecDepth 100000 in
theorem ok_258_5 : mk_258_5.all (mg_chk 258) = true := by decide +kernel
set_option maxRecDepth 100000 in
theorem ok_258_6 : mk_258_6.all (mg_chk 258) = true := by decide +kernel
set_option maxRecDepth 100000 in
theorem ok_258_7 : mk_258_7.all (mg_chk 258) = true := by decide +kernel
set_option maxRecDepth 100000 in
theorem ok_258_8 : mk_258_8.all (mg_chk 258) = true := by decide +kernel
set_option maxRecDepth 100000 in
theorem ok_258_9 : mk_258_9.all (mg_chk 258) = true := by decide +kernel
set_option maxRecDepth 100000 in
theorem ok_258_10 : mk_258_10.all (mg_chk 258) = true := by decide +kernel
set_option maxRecDepth 100000 in
theorem ok_258_11 : mk_258_11.all (mg_chk 258) = true := by decide +kernel
set_option maxRecDepth 100000 in
theorem ok_258_12 : mk_258_12.all (mg_chk 258) = true := by decide +kernel
set_option maxRecDepth 100000 in
theorem ok_258_13 : mk_258_13.all (mg_chk 258) = true := by decide +kernel
set_option maxRecDepth 100000 in
theorem ok_258_14 : mk_258_14.all (mg_chk 258) = true := by decide +kernel
theorem ok_258 : mk_258.all (mg_chk 258) = true := (mg_allapp ok_258_0 (mg_allapp ok_258_1 (mg_allapp ok_258_2 (mg_allapp ok_258_3 (mg_allapp ok_258_4 (mg_allapp ok_258_5 (mg_allapp ok_258_6 (mg_allapp ok_258_7 (mg_allapp ok_258_8 (mg_allapp ok_258_9 (mg_allapp ok_258_10 (mg_allapp ok_258_11 (mg_allapp ok_258_12 (mg_allapp ok_258_13 ok_258_14))))))))))))))
def mg_allok : List (List mg_E) → Nat → Prop
  | [], _ => True
  | l :: ls, i => l.all (mg_chk i) = true ∧ mg_allok ls (i + 1)
theorem mg_allok_get : ∀ (ls : List (List mg_E)) (i : Nat), mg_allok ls i → ∀ k l, ls[k]? = some l → l.all (mg_chk (i + k)) = true
  | [], _, _, k, l, hk => by simp at hk
  | l0 :: ls, i, h, k, l, hk => by
    cases k with
    | zero => cases hk; exact h.1
    | succ k =>
      have h2 := mg_allok_get ls (i + 1) h.2 k l hk
      rw [show i + (k + 1) = i + 1 + k by omega]
      exact h2
theorem mg_allok_0 : mg_allok mg_codes 0 := ⟨ok_0, ⟨ok_1, ⟨ok_2, ⟨ok_3, ⟨ok_4, ⟨ok_5, ⟨ok_6, ⟨ok_7, ⟨ok_8, ⟨ok_9, ⟨ok_10, ⟨ok_11, ⟨ok_12, ⟨ok_13, ⟨ok_14, ⟨ok_15, ⟨ok_16, ⟨ok_17, ⟨ok_18, ⟨ok_19, ⟨ok_20, ⟨ok_21, ⟨ok_22, ⟨ok_23, ⟨ok_24, ⟨ok_25, ⟨ok_26, ⟨ok_27, ⟨ok_28, ⟨ok_29, ⟨ok_30, ⟨ok_31, ⟨ok_32, ⟨ok_33, ⟨ok_34, ⟨ok_35, ⟨ok_36, ⟨ok_37, ⟨ok_38, ⟨ok_39, ⟨ok_40, ⟨ok_41, ⟨ok_42, ⟨ok_43, ⟨ok_44, ⟨ok_45, ⟨ok_46, ⟨ok_47, ⟨ok_48, ⟨ok_49, ⟨ok_50, ⟨ok_51, ⟨ok_52, ⟨ok_53, ⟨ok_54, ⟨ok_55, ⟨ok_56, ⟨ok_57, ⟨ok_58, ⟨ok_59, ⟨ok_60, ⟨ok_61, ⟨ok_62, ⟨ok_63, ⟨ok_64, ⟨ok_65, ⟨ok_66, ⟨ok_67, ⟨ok_68, ⟨ok_69, ⟨ok_70, ⟨ok_71, ⟨ok_72, ⟨ok_73, ⟨ok_74, ⟨ok_75, ⟨ok_76, ⟨ok_77, ⟨ok_78, ⟨ok_79, ⟨ok_80, ⟨ok_81, ⟨ok_82, ⟨ok_83, ⟨ok_84, ⟨ok_85, ⟨ok_86, ⟨ok_87, ⟨ok_88, ⟨ok_89, ⟨ok_90, ⟨ok_91, ⟨ok_92, ⟨ok_93, ⟨ok_94, ⟨ok_95, ⟨ok_96, ⟨ok_97, ⟨ok_98, ⟨ok_99, ⟨ok_100, ⟨ok_101, ⟨ok_102, ⟨ok_103, ⟨ok_104, ⟨ok_105, ⟨ok_106, ⟨ok_107, ⟨ok_108, ⟨ok_109, ⟨ok_110, ⟨ok_111, ⟨ok_112, ⟨ok_113, ⟨ok_114, ⟨ok_115, ⟨ok_116, ⟨ok_117, ⟨ok_118, ⟨ok_119, ⟨ok_120, ⟨ok_121, ⟨ok_122, ⟨ok_123, ⟨ok_124, ⟨ok_125, ⟨ok_126, ⟨ok_127, ⟨ok_128, ⟨ok_129, ⟨ok_130, ⟨ok_131, ⟨ok_132, ⟨ok_133, ⟨ok_134, ⟨ok_135, ⟨ok_136, ⟨ok_137, ⟨ok_138, ⟨ok_139, ⟨ok_140, ⟨ok_141, ⟨ok_142, ⟨ok_143, ⟨ok_144, ⟨ok_145, ⟨ok_146, ⟨ok_147, ⟨ok_148, ⟨ok_149, ⟨ok_150, ⟨ok_151, ⟨ok_152, ⟨ok_153, ⟨ok_154, ⟨ok_155, ⟨ok_156, ⟨ok_157, ⟨ok_158, ⟨ok_159, ⟨ok_160, ⟨ok_161, ⟨ok_162, ⟨ok_163, ⟨ok_164, ⟨ok_165, ⟨ok_166, ⟨ok_167, ⟨ok_168, ⟨ok_169, ⟨ok_170, ⟨ok_171, ⟨ok_172, ⟨ok_173, ⟨ok_174, ⟨ok_175, ⟨ok_176, ⟨ok_177, ⟨ok_178, ⟨ok_179, ⟨ok_180, ⟨ok_181, ⟨ok_182, ⟨ok_183, ⟨ok_184, ⟨ok_185, ⟨ok_186, ⟨ok_187, ⟨ok_188, ⟨ok_189, ⟨ok_190, ⟨ok_191, ⟨ok_192, ⟨ok_193, ⟨ok_194, ⟨ok_195, ⟨ok_196, ⟨ok_197, ⟨ok_198, ⟨ok_199, ⟨ok_200, ⟨ok_201, ⟨ok_202, ⟨ok_203, ⟨ok_204, ⟨ok_205, ⟨ok_206, ⟨ok_207, ⟨ok_208, ⟨ok_209, ⟨ok_210, ⟨ok_211, ⟨ok_212, ⟨ok_213, ⟨ok_214, ⟨ok_215, ⟨ok_216, ⟨ok_217, ⟨ok_218, ⟨ok_219, ⟨ok_220, ⟨ok_221, ⟨ok_222, ⟨ok_223, ⟨ok_224, ⟨ok_225, ⟨ok_226, ⟨ok_227, ⟨ok_228, ⟨ok_229, ⟨ok_230, ⟨ok_231, ⟨ok_232, ⟨ok_233, ⟨ok_234, ⟨ok_235, ⟨ok_236, ⟨ok_237, ⟨ok_238, ⟨ok_239, ⟨ok_240, ⟨ok_241, ⟨ok_242, ⟨ok_243, ⟨ok_244, ⟨ok_245, ⟨ok_246, ⟨ok_247, ⟨ok_248, ⟨ok_249, ⟨ok_250, ⟨ok_251, ⟨ok_252, ⟨ok_253, ⟨ok_254, ⟨ok_255, ⟨ok_256, ⟨ok_257, ⟨ok_258, trivial⟩⟩⟩⟩⟩⟩⟩⟩⟩⟩⟩⟩⟩⟩⟩⟩⟩⟩⟩⟩⟩⟩⟩⟩⟩⟩⟩⟩⟩⟩⟩⟩⟩⟩⟩⟩⟩⟩⟩⟩⟩⟩⟩⟩⟩⟩⟩⟩⟩⟩⟩⟩⟩⟩⟩⟩⟩⟩⟩⟩⟩⟩⟩⟩⟩⟩⟩⟩⟩⟩⟩⟩⟩⟩⟩⟩⟩⟩⟩⟩⟩⟩⟩⟩⟩⟩⟩⟩⟩⟩⟩⟩⟩⟩⟩⟩⟩⟩⟩⟩⟩⟩⟩⟩⟩⟩⟩⟩⟩⟩⟩⟩⟩⟩⟩⟩⟩⟩⟩⟩⟩⟩⟩⟩⟩⟩⟩⟩⟩⟩⟩⟩⟩⟩⟩⟩⟩⟩⟩⟩⟩⟩⟩⟩⟩⟩⟩⟩⟩⟩⟩⟩⟩⟩⟩⟩⟩⟩⟩⟩⟩⟩⟩⟩⟩⟩⟩⟩⟩⟩⟩⟩⟩⟩⟩⟩⟩⟩⟩⟩⟩⟩⟩⟩⟩⟩⟩⟩⟩⟩⟩⟩⟩⟩⟩⟩⟩⟩⟩⟩⟩⟩⟩⟩⟩⟩⟩⟩⟩⟩⟩⟩⟩⟩⟩⟩⟩⟩⟩⟩⟩⟩⟩⟩⟩⟩⟩⟩⟩⟩⟩⟩⟩⟩⟩⟩⟩⟩⟩⟩⟩⟩⟩⟩⟩⟩⟩⟩⟩⟩⟩⟩⟩⟩⟩⟩⟩⟩⟩
theorem mg_ok {mi pc : Nat} {e : mg_E} (h : mg_at mi pc = some e) : e.1 = pc ∧ mg_chk mi e = true := by
  unfold mg_at at h
  have h1 := List.find?_some h
  have h2 := List.mem_of_find?_eq_some h
  refine ⟨Nat.eq_of_beq_eq_true h1, ?_⟩
  cases hl : mg_codes[mi]? with
  | none =>
    rw [List.getD_eq_getElem?_getD, hl] at h2
    cases h2
  | some l =>
    rw [List.getD_eq_getElem?_getD, hl] at h2
    have h3 := mg_allok_get mg_codes 0 mg_allok_0 mi l hl
    rw [Nat.zero_add] at h3
    exact List.all_eq_true.mp h3 e h2
