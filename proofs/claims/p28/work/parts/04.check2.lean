set_option maxRecDepth 20000 in
theorem qk_198 : qa_ckm 198 16 = true := by decide +kernel
set_option maxRecDepth 20000 in
theorem qk_199 : qa_ckm 199 15 = true := by decide +kernel
set_option maxRecDepth 20000 in
theorem qk_200 : qa_ckm 200 239 = true := by decide +kernel
set_option maxRecDepth 20000 in
theorem qk_201 : qa_ckm 201 65 = true := by decide +kernel
set_option maxRecDepth 20000 in
theorem qk_202 : qa_ckm 202 120 = true := by decide +kernel
set_option maxRecDepth 20000 in
theorem qk_203 : qa_ckm 203 21 = true := by decide +kernel
set_option maxRecDepth 20000 in
theorem qk_204 : qa_ckm 204 25 = true := by decide +kernel
set_option maxRecDepth 20000 in
theorem qk_205 : qa_ckm 205 27 = true := by decide +kernel
set_option maxRecDepth 20000 in
theorem qk_206 : qa_ckm 206 24 = true := by decide +kernel
set_option maxRecDepth 20000 in
theorem qk_207 : qa_ckm 207 18 = true := by decide +kernel
set_option maxRecDepth 20000 in
theorem qk_208 : qa_ckm 208 62 = true := by decide +kernel
set_option maxRecDepth 20000 in
theorem qk_209 : qa_ckm 209 84 = true := by decide +kernel
set_option maxRecDepth 20000 in
theorem qk_210 : qa_ckm 210 34 = true := by decide +kernel
set_option maxRecDepth 20000 in
theorem qk_211 : qa_ckm 211 41 = true := by decide +kernel
set_option maxRecDepth 20000 in
theorem qk_212 : qa_ckm 212 64 = true := by decide +kernel
set_option maxRecDepth 20000 in
theorem qk_213 : qa_ckm 213 90 = true := by decide +kernel
set_option maxRecDepth 20000 in
theorem qk_214 : qa_ckm 214 84 = true := by decide +kernel
set_option maxRecDepth 20000 in
theorem qk_215 : qa_ckm 215 84 = true := by decide +kernel
set_option maxRecDepth 20000 in
theorem qk_216 : qa_ckm 216 24 = true := by decide +kernel
set_option maxRecDepth 20000 in
theorem qk_217 : qa_ckm 217 73 = true := by decide +kernel
set_option maxRecDepth 20000 in
theorem qk_218 : qa_ckm 218 95 = true := by decide +kernel
set_option maxRecDepth 20000 in
theorem qk_219 : qa_ckm 219 42 = true := by decide +kernel
set_option maxRecDepth 20000 in
theorem qk_220 : qa_ckm 220 46 = true := by decide +kernel
set_option maxRecDepth 20000 in
theorem qk_221 : qa_ckm 221 13 = true := by decide +kernel
set_option maxRecDepth 20000 in
theorem qk_222 : qa_ckm 222 279 = true := by decide +kernel
set_option maxRecDepth 20000 in
theorem qk_223 : qa_ckm 223 35 = true := by decide +kernel
set_option maxRecDepth 20000 in
theorem qk_224 : qa_ckm 224 25 = true := by decide +kernel
set_option maxRecDepth 20000 in
theorem qk_225 : qa_ckm 225 48 = true := by decide +kernel
set_option maxRecDepth 20000 in
theorem qk_226 : qa_ckm 226 15 = true := by decide +kernel
set_option maxRecDepth 20000 in
theorem qk_227 : qa_ckm 227 162 = true := by decide +kernel
set_option maxRecDepth 20000 in
theorem qk_228 : qa_ckm 228 178 = true := by decide +kernel
set_option maxRecDepth 20000 in
theorem qk_229 : qa_ckm 229 81 = true := by decide +kernel
set_option maxRecDepth 20000 in
theorem qk_230 : qa_ckm 230 109 = true := by decide +kernel
set_option maxRecDepth 20000 in
theorem qk_231 : qa_ckm 231 42 = true := by decide +kernel
set_option maxRecDepth 20000 in
theorem qk_232 : qa_ckm 232 251 = true := by decide +kernel
set_option maxRecDepth 20000 in
theorem qk_233 : qa_ckm 233 103 = true := by decide +kernel
set_option maxRecDepth 20000 in
theorem qk_234 : qa_ckm 234 144 = true := by decide +kernel
set_option maxRecDepth 20000 in
theorem qk_235 : qa_ckm 235 42 = true := by decide +kernel
set_option maxRecDepth 20000 in
theorem qk_236 : qa_ckm 236 143 = true := by decide +kernel
set_option maxRecDepth 20000 in
theorem qk_237 : qa_ckm 237 12 = true := by decide +kernel
set_option maxRecDepth 20000 in
theorem qk_238 : qa_ckm 238 12 = true := by decide +kernel
set_option maxRecDepth 20000 in
theorem qk_239 : qa_ckm 239 12 = true := by decide +kernel
set_option maxRecDepth 20000 in
theorem qk_240 : qa_ckm 240 105 = true := by decide +kernel
set_option maxRecDepth 20000 in
theorem qk_241 : qa_ckm 241 58 = true := by decide +kernel
set_option maxRecDepth 20000 in
theorem qk_242 : qa_ckm 242 91 = true := by decide +kernel
set_option maxRecDepth 20000 in
theorem qk_243 : qa_ckm 243 15 = true := by decide +kernel
set_option maxRecDepth 20000 in
theorem qk_244 : qa_ckm 244 108 = true := by decide +kernel
set_option maxRecDepth 20000 in
theorem qk_245 : qa_ckm 245 50 = true := by decide +kernel
set_option maxRecDepth 20000 in
theorem qk_246 : qa_ckm 246 51 = true := by decide +kernel
set_option maxRecDepth 20000 in
theorem qk_247 : qa_ckm 247 33 = true := by decide +kernel
set_option maxRecDepth 20000 in
theorem qk_248 : qa_ckm 248 29 = true := by decide +kernel
set_option maxRecDepth 20000 in
theorem qk_249 : qa_ckm 249 122 = true := by decide +kernel
set_option maxRecDepth 20000 in
theorem qk_250 : qa_ckm 250 285 = true := by decide +kernel
set_option maxRecDepth 20000 in
theorem qk_251 : qa_ckm 251 156 = true := by decide +kernel
set_option maxRecDepth 20000 in
theorem qk_252 : qa_ckm 252 29 = true := by decide +kernel
set_option maxRecDepth 20000 in
theorem qk_253 : qa_ckm 253 278 = true := by decide +kernel
set_option maxRecDepth 20000 in
theorem qk_254 : qa_ckm 254 34 = true := by decide +kernel
set_option maxRecDepth 20000 in
theorem qk_255 : qa_ckm 255 33 = true := by decide +kernel
set_option maxRecDepth 20000 in
theorem qk_256 : qa_ckm 256 31 = true := by decide +kernel
set_option maxRecDepth 20000 in
theorem qk_257 : qa_ckm 257 168 = true := by decide +kernel
set_option maxRecDepth 20000 in
theorem qk_258 : qa_ckm 258 31 = true := by decide +kernel
set_option maxRecDepth 20000 in
theorem qk_259 : qa_ckm 259 143 = true := by decide +kernel
set_option maxRecDepth 20000 in
theorem qk_260 : qa_ckm 260 7 = true := by decide +kernel
set_option maxRecDepth 20000 in
theorem qk_261 : qa_ckm 261 105 = true := by decide +kernel
set_option maxRecDepth 20000 in
theorem qk_262 : qa_ckm 262 93 = true := by decide +kernel
set_option maxRecDepth 20000 in
theorem qk_263 : qa_ckm 263 24 = true := by decide +kernel
set_option maxRecDepth 20000 in
theorem qk_264 : qa_ckm 264 48 = true := by decide +kernel
set_option maxRecDepth 20000 in
theorem qk_265 : qa_ckm 265 44 = true := by decide +kernel
set_option maxRecDepth 20000 in
theorem qk_266 : qa_ckm 266 44 = true := by decide +kernel
set_option maxRecDepth 20000 in
theorem qk_267 : qa_ckm 267 29 = true := by decide +kernel
set_option maxRecDepth 20000 in
theorem qk_268 : qa_ckm 268 28 = true := by decide +kernel
set_option maxRecDepth 20000 in
theorem qk_269 : qa_ckm 269 38 = true := by decide +kernel
set_option maxRecDepth 20000 in
theorem qk_270 : qa_ckm 270 49 = true := by decide +kernel
set_option maxRecDepth 20000 in
theorem qk_271 : qa_ckm 271 59 = true := by decide +kernel
set_option maxRecDepth 20000 in
theorem qk_272 : qa_ckm 272 70 = true := by decide +kernel
set_option maxRecDepth 20000 in
theorem qk_273 : qa_ckm 273 159 = true := by decide +kernel
set_option maxRecDepth 20000 in
theorem qk_274 : qa_ckm 274 37 = true := by decide +kernel
set_option maxRecDepth 20000 in
theorem qk_275 : qa_ckm 275 237 = true := by decide +kernel
set_option maxRecDepth 20000 in
theorem qk_276 : qa_ckm 276 52 = true := by decide +kernel
set_option maxRecDepth 20000 in
theorem qk_277 : qa_ckm 277 71 = true := by decide +kernel
set_option maxRecDepth 20000 in
theorem qk_278 : qa_ckm 278 32 = true := by decide +kernel
set_option maxRecDepth 20000 in
theorem qk_279 : qa_ckm 279 49 = true := by decide +kernel
set_option maxRecDepth 20000 in
theorem qk_280 : qa_ckm 280 91 = true := by decide +kernel
set_option maxRecDepth 20000 in
theorem qk_281 : qa_ckm 281 112 = true := by decide +kernel
set_option maxRecDepth 20000 in
theorem qk_282 : qa_ckm 282 32 = true := by decide +kernel
set_option maxRecDepth 20000 in
theorem qk_283 : qa_ckm 283 115 = true := by decide +kernel
set_option maxRecDepth 20000 in
theorem qk_284 : qa_ckm 284 107 = true := by decide +kernel
set_option maxRecDepth 20000 in
theorem qk_285 : qa_ckm 285 51 = true := by decide +kernel
set_option maxRecDepth 20000 in
theorem qk_286 : qa_ckm 286 254 = true := by decide +kernel
set_option maxRecDepth 20000 in
theorem qk_287 : qa_ckm 287 136 = true := by decide +kernel
set_option maxRecDepth 20000 in
theorem qk_288 : qa_ckm 288 29 = true := by decide +kernel
set_option maxRecDepth 20000 in
theorem qk_289 : qa_ckm 289 134 = true := by decide +kernel
set_option maxRecDepth 20000 in
theorem qk_290 : qa_ckm 290 99 = true := by decide +kernel
set_option maxRecDepth 20000 in
theorem qk_291 : qa_ckm 291 85 = true := by decide +kernel
set_option maxRecDepth 20000 in
theorem qk_292 : qa_ckm 292 92 = true := by decide +kernel
set_option maxRecDepth 20000 in
theorem qk_293 : qa_ckm 293 114 = true := by decide +kernel
set_option maxRecDepth 20000 in
theorem qk_294 : qa_ckm 294 76 = true := by decide +kernel
set_option maxRecDepth 20000 in
theorem qk_295 : qa_ckm 295 65 = true := by decide +kernel
set_option maxRecDepth 20000 in
theorem qk_296 : qa_ckm 296 67 = true := by decide +kernel
set_option maxRecDepth 20000 in
theorem qk_297 : qa_ckm 297 121 = true := by decide +kernel
set_option maxRecDepth 20000 in
theorem qk_298 : qa_ckm 298 37 = true := by decide +kernel
set_option maxRecDepth 20000 in
theorem qk_299 : qa_ckm 299 71 = true := by decide +kernel
set_option maxRecDepth 20000 in
theorem qk_300 : qa_ckm 300 49 = true := by decide +kernel
set_option maxRecDepth 20000 in
theorem qk_301 : qa_ckm 301 28 = true := by decide +kernel
set_option maxRecDepth 20000 in
theorem qk_302 : qa_ckm 302 54 = true := by decide +kernel
set_option maxRecDepth 20000 in
theorem qk_303 : qa_ckm 303 144 = true := by decide +kernel
set_option maxRecDepth 20000 in
theorem qk_304 : qa_ckm 304 152 = true := by decide +kernel
set_option maxRecDepth 20000 in
theorem qk_305 : qa_ckm 305 42 = true := by decide +kernel
set_option maxRecDepth 20000 in
theorem qk_306 : qa_ckm 306 117 = true := by decide +kernel
set_option maxRecDepth 20000 in
theorem qk_307 : qa_ckm 307 106 = true := by decide +kernel
set_option maxRecDepth 20000 in
theorem qk_308 : qa_ckm 308 91 = true := by decide +kernel
set_option maxRecDepth 20000 in
theorem qk_309 : qa_ckm 309 64 = true := by decide +kernel
set_option maxRecDepth 20000 in
theorem qk_310 : qa_ckm 310 53 = true := by decide +kernel
set_option maxRecDepth 20000 in
theorem qk_311 : qa_ckm 311 66 = true := by decide +kernel
set_option maxRecDepth 20000 in
theorem qk_312 : qa_ckm 312 61 = true := by decide +kernel
set_option maxRecDepth 20000 in
theorem qk_313 : qa_ckm 313 107 = true := by decide +kernel
