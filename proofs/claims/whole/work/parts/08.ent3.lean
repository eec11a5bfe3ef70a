set_option maxRecDepth 100000 in
theorem ze_135 : pg_135.all (zEOk 135) = true := by decide +kernel
set_option maxRecDepth 100000 in
theorem ze_136 : pg_136.all (zEOk 136) = true := by decide +kernel
set_option maxRecDepth 100000 in
theorem ze_137 : pg_137.all (zEOk 137) = true := by decide +kernel
set_option maxRecDepth 100000 in
theorem ze_138 : pg_138.all (zEOk 138) = true := by decide +kernel
set_option maxRecDepth 100000 in
theorem ze_139 : pg_139.all (zEOk 139) = true := by decide +kernel
set_option maxRecDepth 100000 in
theorem ze_140 : pg_140.all (zEOk 140) = true := by decide +kernel
set_option maxRecDepth 100000 in
theorem ze_141 : pg_141.all (zEOk 141) = true := by decide +kernel
set_option maxRecDepth 100000 in
theorem ze_142 : pg_142.all (zEOk 142) = true := by decide +kernel
set_option maxRecDepth 100000 in
theorem ze_143 : pg_143.all (zEOk 143) = true := by decide +kernel
set_option maxRecDepth 100000 in
theorem ze_144 : pg_144.all (zEOk 144) = true := by decide +kernel
set_option maxRecDepth 100000 in
theorem ze_145 : pg_145.all (zEOk 145) = true := by decide +kernel
set_option maxRecDepth 100000 in
theorem ze_146 : pg_146.all (zEOk 146) = true := by decide +kernel
set_option maxRecDepth 100000 in
theorem ze_147 : pg_147.all (zEOk 147) = true := by decide +kernel
set_option maxRecDepth 100000 in
theorem ze_148 : pg_148.all (zEOk 148) = true := by decide +kernel
set_option maxRecDepth 100000 in
theorem ze_149 : pg_149.all (zEOk 149) = true := by decide +kernel
set_option maxRecDepth 100000 in
theorem ze_150 : pg_150.all (zEOk 150) = true := by decide +kernel
set_option maxRecDepth 100000 in
theorem ze_151 : pg_151.all (zEOk 151) = true := by decide +kernel
set_option maxRecDepth 100000 in
theorem ze_152 : pg_152.all (zEOk 152) = true := by decide +kernel
set_option maxRecDepth 100000 in
theorem ze_153 : pg_153.all (zEOk 153) = true := by decide +kernel
set_option maxRecDepth 100000 in
theorem ze_154 : pg_154.all (zEOk 154) = true := by decide +kernel
set_option maxRecDepth 100000 in
theorem ze_155 : pg_155.all (zEOk 155) = true := by decide +kernel
set_option maxRecDepth 100000 in
theorem ze_156 : pg_156.all (zEOk 156) = true := by decide +kernel
set_option maxRecDepth 100000 in
theorem ze_157 : pg_157.all (zEOk 157) = true := by decide +kernel
set_option maxRecDepth 100000 in
theorem ze_158 : pg_158.all (zEOk 158) = true := by decide +kernel
set_option maxRecDepth 100000 in
theorem ze_159 : pg_159.all (zEOk 159) = true := by decide +kernel
set_option maxRecDepth 100000 in
theorem ze_160 : pg_160.all (zEOk 160) = true := by decide +kernel
set_option maxRecDepth 100000 in
theorem ze_161 : pg_161.all (zEOk 161) = true := by decide +kernel
set_option maxRecDepth 100000 in
theorem ze_162 : pg_162.all (zEOk 162) = true := by decide +kernel
set_option maxRecDepth 100000 in
theorem ze_163 : pg_163.all (zEOk 163) = true := by decide +kernel
set_option maxRecDepth 100000 in
theorem ze_164 : pg_164.all (zEOk 164) = true := by decide +kernel
set_option maxRecDepth 100000 in
theorem ze_165 : pg_165.all (zEOk 165) = true := by decide +kernel
set_option maxRecDepth 100000 in
theorem ze_166 : pg_166.all (zEOk 166) = true := by decide +kernel
set_option maxRecDepth 100000 in
theorem ze_167 : pg_167.all (zEOk 167) = true := by decide +kernel
set_option maxRecDepth 100000 in
theorem ze_168 : pg_168.all (zEOk 168) = true := by decide +kernel
set_option maxRecDepth 100000 in
theorem ze_169 : pg_169.all (zEOk 169) = true := by decide +kernel
set_option maxRecDepth 100000 in
theorem ze_170 : pg_170.all (zEOk 170) = true := by decide +kernel
set_option maxRecDepth 100000 in
theorem ze_171 : pg_171.all (zEOk 171) = true := by decide +kernel
set_option maxRecDepth 100000 in
theorem ze_172 : pg_172.all (zEOk 172) = true := by decide +kernel
set_option maxRecDepth 100000 in
theorem ze_173 : pg_173.all (zEOk 173) = true := by decide +kernel
set_option maxRecDepth 100000 in
theorem ze_174 : pg_174.all (zEOk 174) = true := by decide +kernel
set_option maxRecDepth 100000 in
theorem ze_175 : pg_175.all (zEOk 175) = true := by decide +kernel
set_option maxRecDepth 100000 in
theorem ze_176 : pg_176.all (zEOk 176) = true := by decide +kernel
set_option maxRecDepth 100000 in
theorem ze_177 : pg_177.all (zEOk 177) = true := by decide +kernel
set_option maxRecDepth 100000 in
theorem ze_178 : pg_178.all (zEOk 178) = true := by decide +kernel
set_option maxRecDepth 100000 in
theorem ze_179 : pg_179.all (zEOk 179) = true := by decide +kernel
