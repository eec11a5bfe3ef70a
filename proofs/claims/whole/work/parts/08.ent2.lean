set_option maxRecDepth 100000 in
theorem ze_90 : pg_90.all (zEOk 90) = true := by decide +kernel
set_option maxRecDepth 100000 in
theorem ze_91 : pg_91.all (zEOk 91) = true := by decide +kernel
set_option maxRecDepth 100000 in
theorem ze_92 : pg_92.all (zEOk 92) = true := by decide +kernel
set_option maxRecDepth 100000 in
theorem ze_93 : pg_93.all (zEOk 93) = true := by decide +kernel
set_option maxRecDepth 100000 in
theorem ze_94 : pg_94.all (zEOk 94) = true := by decide +kernel
set_option maxRecDepth 100000 in
theorem ze_95 : pg_95.all (zEOk 95) = true := by decide +kernel
set_option maxRecDepth 100000 in
theorem ze_96 : pg_96.all (zEOk 96) = true := by decide +kernel
set_option maxRecDepth 100000 in
theorem ze_97 : pg_97.all (zEOk 97) = true := by decide +kernel
set_option maxRecDepth 100000 in
theorem ze_98 : pg_98.all (zEOk 98) = true := by decide +kernel
set_option maxRecDepth 100000 in
theorem ze_99 : pg_99.all (zEOk 99) = true := by decide +kernel
set_option maxRecDepth 100000 in
theorem ze_100 : pg_100.all (zEOk 100) = true := by decide +kernel
set_option maxRecDepth 100000 in
theorem ze_101 : pg_101.all (zEOk 101) = true := by decide +kernel
set_option maxRecDepth 100000 in
theorem ze_102 : pg_102.all (zEOk 102) = true := by decide +kernel
set_option maxRecDepth 100000 in
theorem ze_103 : pg_103.all (zEOk 103) = true := by decide +kernel
set_option maxRecDepth 100000 in
theorem ze_104 : pg_104.all (zEOk 104) = true := by decide +kernel
set_option maxRecDepth 100000 in
theorem ze_105 : pg_105.all (zEOk 105) = true := by decide +kernel
set_option maxRecDepth 100000 in
theorem ze_106 : pg_106.all (zEOk 106) = true := by decide +kernel
set_option maxRecDepth 100000 in
theorem ze_107 : pg_107.all (zEOk 107) = true := by decide +kernel
set_option maxRecDepth 100000 in
theorem ze_108 : pg_108.all (zEOk 108) = true := by decide +kernel
set_option maxRecDepth 100000 in
theorem ze_109 : pg_109.all (zEOk 109) = true := by decide +kernel
set_option maxRecDepth 100000 in
theorem ze_110 : pg_110.all (zEOk 110) = true := by decide +kernel
set_option maxRecDepth 100000 in
theorem ze_111 : pg_111.all (zEOk 111) = true := by decide +kernel
set_option maxRecDepth 100000 in
theorem ze_112 : pg_112.all (zEOk 112) = true := by decide +kernel
set_option maxRecDepth 100000 in
theorem ze_113 : pg_113.all (zEOk 113) = true := by decide +kernel
set_option maxRecDepth 100000 in
theorem ze_114 : pg_114.all (zEOk 114) = true := by decide +kernel
set_option maxRecDepth 100000 in
theorem ze_115 : pg_115.all (zEOk 115) = true := by decide +kernel
set_option maxRecDepth 100000 in
theorem ze_116 : pg_116.all (zEOk 116) = true := by decide +kernel
set_option maxRecDepth 100000 in
theorem ze_117 : pg_117.all (zEOk 117) = true := by decide +kernel
set_option maxRecDepth 100000 in
theorem ze_118 : pg_118.all (zEOk 118) = true := by decide +kernel
set_option maxRecDepth 100000 in
theorem ze_119 : pg_119.all (zEOk 119) = true := by decide +kernel
set_option maxRecDepth 100000 in
theorem ze_120 : pg_120.all (zEOk 120) = true := by decide +kernel
set_option maxRecDepth 100000 in
theorem ze_121 : pg_121.all (zEOk 121) = true := by decide +kernel
set_option maxRecDepth 100000 in
theorem ze_122 : pg_122.all (zEOk 122) = true := by decide +kernel
set_option maxRecDepth 100000 in
theorem ze_123 : pg_123.all (zEOk 123) = true := by decide +kernel
set_option maxRecDepth 100000 in
theorem ze_124 : pg_124.all (zEOk 124) = true := by decide +kernel
set_option maxRecDepth 100000 in
theorem ze_125 : pg_125.all (zEOk 125) = true := by decide +kernel
set_option maxRecDepth 100000 in
theorem ze_126 : pg_126.all (zEOk 126) = true := by decide +kernel
set_option maxRecDepth 100000 in
theorem ze_127 : pg_127.all (zEOk 127) = true := by decide +kernel
set_option maxRecDepth 100000 in
theorem ze_128 : pg_128.all (zEOk 128) = true := by decide +kernel
set_option maxRecDepth 100000 in
theorem ze_129 : pg_129.all (zEOk 129) = true := by decide +kernel
set_option maxRecDepth 100000 in
theorem ze_130 : pg_130.all (zEOk 130) = true := by decide +kernel
set_option maxRecDepth 100000 in
theorem ze_131 : pg_131.all (zEOk 131) = true := by decide +kernel
set_option maxRecDepth 100000 in
theorem ze_132 : pg_132.all (zEOk 132) = true := by decide +kernel
set_option maxRecDepth 100000 in
theorem ze_133 : pg_133.all (zEOk 133) = true := by decide +kernel
set_option maxRecDepth 100000 in
theorem ze_134 : pg_134.all (zEOk 134) = true := by decide +kernel
