set_option maxRecDepth 100000 in
theorem ze_225 : pg_225.all (zEOk 225) = true := by decide +kernel
set_option maxRecDepth 100000 in
theorem ze_226 : pg_226.all (zEOk 226) = true := by decide +kernel
set_option maxRecDepth 100000 in
theorem ze_227 : pg_227.all (zEOk 227) = true := by decide +kernel
set_option maxRecDepth 100000 in
theorem ze_228 : pg_228.all (zEOk 228) = true := by decide +kernel
set_option maxRecDepth 100000 in
theorem ze_229 : pg_229.all (zEOk 229) = true := by decide +kernel
set_option maxRecDepth 100000 in
theorem ze_230 : pg_230.all (zEOk 230) = true := by decide +kernel
set_option maxRecDepth 100000 in
theorem ze_231 : pg_231.all (zEOk 231) = true := by decide +kernel
set_option maxRecDepth 100000 in
theorem ze_232 : pg_232.all (zEOk 232) = true := by decide +kernel
set_option maxRecDepth 100000 in
theorem ze_233 : pg_233.all (zEOk 233) = true := by decide +kernel
set_option maxRecDepth 100000 in
theorem ze_234 : pg_234.all (zEOk 234) = true := by decide +kernel
set_option maxRecDepth 100000 in
theorem ze_235 : pg_235.all (zEOk 235) = true := by decide +kernel
set_option maxRecDepth 100000 in
theorem ze_236 : pg_236.all (zEOk 236) = true := by decide +kernel
set_option maxRecDepth 100000 in
theorem ze_237 : pg_237.all (zEOk 237) = true := by decide +kernel
set_option maxRecDepth 100000 in
theorem ze_238 : pg_238.all (zEOk 238) = true := by decide +kernel
set_option maxRecDepth 100000 in
theorem ze_239 : pg_239.all (zEOk 239) = true := by decide +kernel
set_option maxRecDepth 100000 in
theorem ze_240 : pg_240.all (zEOk 240) = true := by decide +kernel
set_option maxRecDepth 100000 in
theorem ze_241 : pg_241.all (zEOk 241) = true := by decide +kernel
set_option maxRecDepth 100000 in
theorem ze_242 : pg_242.all (zEOk 242) = true := by decide +kernel
set_option maxRecDepth 100000 in
theorem ze_243 : pg_243.all (zEOk 243) = true := by decide +kernel
set_option maxRecDepth 100000 in
theorem ze_244 : pg_244.all (zEOk 244) = true := by decide +kernel
set_option maxRecDepth 100000 in
theorem ze_245 : pg_245.all (zEOk 245) = true := by decide +kernel
set_option maxRecDepth 100000 in
theorem ze_246 : pg_246.all (zEOk 246) = true := by decide +kernel
set_option maxRecDepth 100000 in
theorem ze_247 : pg_247.all (zEOk 247) = true := by decide +kernel
set_option maxRecDepth 100000 in
theorem ze_248 : pg_248.all (zEOk 248) = true := by decide +kernel
set_option maxRecDepth 100000 in
theorem ze_249 : pg_249.all (zEOk 249) = true := by decide +kernel
set_option maxRecDepth 100000 in
theorem ze_250 : pg_250.all (zEOk 250) = true := by decide +kernel
set_option maxRecDepth 100000 in
theorem ze_251 : pg_251.all (zEOk 251) = true := by decide +kernel
set_option maxRecDepth 100000 in
theorem ze_252 : pg_252.all (zEOk 252) = true := by decide +kernel
set_option maxRecDepth 100000 in
theorem ze_253 : pg_253.all (zEOk 253) = true := by decide +kernel
set_option maxRecDepth 100000 in
theorem ze_254 : pg_254.all (zEOk 254) = true := by decide +kernel
set_option maxRecDepth 100000 in
theorem ze_255 : pg_255.all (zEOk 255) = true := by decide +kernel
set_option maxRecDepth 100000 in
theorem ze_256 : pg_256.all (zEOk 256) = true := by decide +kernel
set_option maxRecDepth 100000 in
theorem ze_257 : pg_257.all (zEOk 257) = true := by decide +kernel
set_option maxRecDepth 100000 in
theorem ze_258 : pg_258.all (zEOk 258) = true := by decide +kernel
set_option maxRecDepth 100000 in
theorem ze_259 : pg_259.all (zEOk 259) = true := by decide +kernel
set_option maxRecDepth 100000 in
theorem ze_260 : pg_260.all (zEOk 260) = true := by decide +kernel
set_option maxRecDepth 100000 in
theorem ze_261 : pg_261.all (zEOk 261) = true := by decide +kernel
set_option maxRecDepth 100000 in
theorem ze_262 : pg_262.all (zEOk 262) = true := by decide +kernel
set_option maxRecDepth 100000 in
theorem ze_263 : pg_263.all (zEOk 263) = true := by decide +kernel
set_option maxRecDepth 100000 in
theorem ze_264 : pg_264.all (zEOk 264) = true := by decide +kernel
