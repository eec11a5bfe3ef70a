set_option maxRecDepth 100000 in
theorem ze_180 : pg_180.all (zEOk 180) = true := by decide +kernel
set_option maxRecDepth 100000 in
theorem ze_181 : pg_181.all (zEOk 181) = true := by decide +kernel
set_option maxRecDepth 100000 in
theorem ze_182 : pg_182.all (zEOk 182) = true := by decide +kernel
set_option maxRecDepth 100000 in
theorem ze_183 : pg_183.all (zEOk 183) = true := by decide +kernel
set_option maxRecDepth 100000 in
theorem ze_184 : pg_184.all (zEOk 184) = true := by decide +kernel
set_option maxRecDepth 100000 in
theorem ze_185 : pg_185.all (zEOk 185) = true := by decide +kernel
set_option maxRecDepth 100000 in
theorem ze_186 : pg_186.all (zEOk 186) = true := by decide +kernel
set_option maxRecDepth 100000 in
theorem ze_187 : pg_187.all (zEOk 187) = true := by decide +kernel
set_option maxRecDepth 100000 in
theorem ze_188 : pg_188.all (zEOk 188) = true := by decide +kernel
set_option maxRecDepth 100000 in
theorem ze_189 : pg_189.all (zEOk 189) = true := by decide +kernel
set_option maxRecDepth 100000 in
theorem ze_190 : pg_190.all (zEOk 190) = true := by decide +kernel
set_option maxRecDepth 100000 in
theorem ze_191 : pg_191.all (zEOk 191) = true := by decide +kernel
set_option maxRecDepth 100000 in
theorem ze_192 : pg_192.all (zEOk 192) = true := by decide +kernel
set_option maxRecDepth 100000 in
theorem ze_193 : pg_193.all (zEOk 193) = true := by decide +kernel
set_option maxRecDepth 100000 in
theorem ze_194 : pg_194.all (zEOk 194) = true := by decide +kernel
set_option maxRecDepth 100000 in
theorem ze_195 : pg_195.all (zEOk 195) = true := by decide +kernel
set_option maxRecDepth 100000 in
theorem ze_196 : pg_196.all (zEOk 196) = true := by decide +kernel
set_option maxRecDepth 100000 in
theorem ze_197 : pg_197.all (zEOk 197) = true := by decide +kernel
set_option maxRecDepth 100000 in
theorem ze_198 : pg_198.all (zEOk 198) = true := by decide +kernel
set_option maxRecDepth 100000 in
theorem ze_199 : pg_199.all (zEOk 199) = true := by decide +kernel
set_option maxRecDepth 100000 in
theorem ze_200 : pg_200.all (zEOk 200) = true := by decide +kernel
set_option maxRecDepth 100000 in
theorem ze_201 : pg_201.all (zEOk 201) = true := by decide +kernel
set_option maxRecDepth 100000 in
theorem ze_202 : pg_202.all (zEOk 202) = true := by decide +kernel
set_option maxRecDepth 100000 in
theorem ze_203 : pg_203.all (zEOk 203) = true := by decide +kernel
set_option maxRecDepth 100000 in
theorem ze_204 : pg_204.all (zEOk 204) = true := by decide +kernel
set_option maxRecDepth 100000 in
theorem ze_205 : pg_205.all (zEOk 205) = true := by decide +kernel
set_option maxRecDepth 100000 in
theorem ze_206 : pg_206.all (zEOk 206) = true := by decide +kernel
set_option maxRecDepth 100000 in
theorem ze_207 : pg_207.all (zEOk 207) = true := by decide +kernel
set_option maxRecDepth 100000 in
theorem ze_208 : pg_208.all (zEOk 208) = true := by decide +kernel
set_option maxRecDepth 100000 in
theorem ze_209 : pg_209.all (zEOk 209) = true := by decide +kernel
set_option maxRecDepth 100000 in
theorem ze_210 : pg_210.all (zEOk 210) = true := by decide +kernel
set_option maxRecDepth 100000 in
theorem ze_211 : pg_211.all (zEOk 211) = true := by decide +kernel
set_option maxRecDepth 100000 in
theorem ze_212 : pg_212.all (zEOk 212) = true := by decide +kernel
set_option maxRecDepth 100000 in
theorem ze_213 : pg_213.all (zEOk 213) = true := by decide +kernel
set_option maxRecDepth 100000 in
theorem ze_214 : pg_214.all (zEOk 214) = true := by decide +kernel
set_option maxRecDepth 100000 in
theorem ze_215 : pg_215.all (zEOk 215) = true := by decide +kernel
set_option maxRecDepth 100000 in
theorem ze_216 : pg_216.all (zEOk 216) = true := by decide +kernel
set_option maxRecDepth 100000 in
theorem ze_217 : pg_217.all (zEOk 217) = true := by decide +kernel
set_option maxRecDepth 100000 in
theorem ze_218 : pg_218.all (zEOk 218) = true := by decide +kernel
set_option maxRecDepth 100000 in
theorem ze_219 : pg_219.all (zEOk 219) = true := by decide +kernel
set_option maxRecDepth 100000 in
theorem ze_220 : pg_220.all (zEOk 220) = true := by decide +kernel
set_option maxRecDepth 100000 in
theorem ze_221 : pg_221.all (zEOk 221) = true := by decide +kernel
set_option maxRecDepth 100000 in
theorem ze_222 : pg_222.all (zEOk 222) = true := by decide +kernel
set_option maxRecDepth 100000 in
theorem ze_223 : pg_223.all (zEOk 223) = true := by decide +kernel
set_option maxRecDepth 100000 in
theorem ze_224 : pg_224.all (zEOk 224) = true := by decide +kernel
