theorem am_D_222 : (am_code 222).all (am_okE 222) = true := by decide +kernel
theorem am_D_223 : (am_code 223).all (am_okE 223) = true := by decide +kernel
theorem am_D_224 : (am_code 224).all (am_okE 224) = true := by decide +kernel
theorem am_D_225 : (am_code 225).all (am_okE 225) = true := by decide +kernel
theorem am_D_226 : (am_code 226).all (am_okE 226) = true := by decide +kernel
theorem am_D_227 : (am_code 227).all (am_okE 227) = true := by decide +kernel
theorem am_D_228 : (am_code 228).all (am_okE 228) = true := by decide +kernel
theorem am_D_229 : (am_code 229).all (am_okE 229) = true := by decide +kernel
theorem am_D_230_0 : (((am_code 230).drop 0).take 60).all (am_okE 230) = true := by decide +kernel
theorem am_D_230_1 : ((am_code 230).drop 60).all (am_okE 230) = true := by decide +kernel
theorem am_D_230 : (am_code 230).all (am_okE 230) = true := am_all_app 60 am_D_230_0 (am_D_230_1)
theorem am_D_231 : (am_code 231).all (am_okE 231) = true := by decide +kernel
theorem am_D_232 : (am_code 232).all (am_okE 232) = true := by decide +kernel
theorem am_D_233 : (am_code 233).all (am_okE 233) = true := by decide +kernel
theorem am_D_234 : (am_code 234).all (am_okE 234) = true := by decide +kernel
theorem am_D_235 : (am_code 235).all (am_okE 235) = true := by decide +kernel
theorem am_D_236_0 : (((am_code 236).drop 0).take 60).all (am_okE 236) = true := by decide +kernel
theorem am_D_236_1 : ((am_code 236).drop 60).all (am_okE 236) = true := by decide +kernel
theorem am_D_236 : (am_code 236).all (am_okE 236) = true := am_all_app 60 am_D_236_0 (am_D_236_1)
theorem am_D_237_0 : (((am_code 237).drop 0).take 60).all (am_okE 237) = true := by decide +kernel
theorem am_D_237_1 : ((am_code 237).drop 60).all (am_okE 237) = true := by decide +kernel
theorem am_D_237 : (am_code 237).all (am_okE 237) = true := am_all_app 60 am_D_237_0 (am_D_237_1)
theorem am_D_238 : (am_code 238).all (am_okE 238) = true := by decide +kernel
theorem am_D_239 : (am_code 239).all (am_okE 239) = true := by decide +kernel
theorem am_D_240 : (am_code 240).all (am_okE 240) = true := by decide +kernel
theorem am_D_241 : (am_code 241).all (am_okE 241) = true := by decide +kernel
theorem am_D_242 : (am_code 242).all (am_okE 242) = true := by decide +kernel
theorem am_D_243 : (am_code 243).all (am_okE 243) = true := by decide +kernel
theorem am_D_244 : (am_code 244).all (am_okE 244) = true := by decide +kernel
theorem am_D_245 : (am_code 245).all (am_okE 245) = true := by decide +kernel
theorem am_D_246 : (am_code 246).all (am_okE 246) = true := by decide +kernel
theorem am_D_247 : (am_code 247).all (am_okE 247) = true := by decide +kernel
theorem am_D_248_0 : (((am_code 248).drop 0).take 60).all (am_okE 248) = true := by decide +kernel
theorem am_D_248_1 : ((am_code 248).drop 60).all (am_okE 248) = true := by decide +kernel
theorem am_D_248 : (am_code 248).all (am_okE 248) = true := am_all_app 60 am_D_248_0 (am_D_248_1)
theorem am_D_249 : (am_code 249).all (am_okE 249) = true := by decide +kernel
theorem am_D_250 : (am_code 250).all (am_okE 250) = true := by decide +kernel
theorem am_D_251_0 : (((am_code 251).drop 0).take 60).all (am_okE 251) = true := by decide +kernel
theorem am_D_251_1 : ((am_code 251).drop 60).all (am_okE 251) = true := by decide +kernel
theorem am_D_251 : (am_code 251).all (am_okE 251) = true := am_all_app 60 am_D_251_0 (am_D_251_1)
theorem am_D_252_0 : (((am_code 252).drop 0).take 60).all (am_okE 252) = true := by decide +kernel
theorem am_D_252_1 : ((am_code 252).drop 60).all (am_okE 252) = true := by decide +kernel
theorem am_D_252 : (am_code 252).all (am_okE 252) = true := am_all_app 60 am_D_252_0 (am_D_252_1)
theorem am_D_253_0 : (((am_code 253).drop 0).take 60).all (am_okE 253) = true := by decide +kernel
theorem am_D_253_1 : ((am_code 253).drop 60).all (am_okE 253) = true := by decide +kernel
theorem am_D_253 : (am_code 253).all (am_okE 253) = true := am_all_app 60 am_D_253_0 (am_D_253_1)
theorem am_D_254_0 : (((am_code 254).drop 0).take 60).all (am_okE 254) = true := by decide +kernel
theorem am_D_254_1 : ((am_code 254).drop 60).all (am_okE 254) = true := by decide +kernel
theorem am_D_254 : (am_code 254).all (am_okE 254) = true := am_all_app 60 am_D_254_0 (am_D_254_1)
theorem am_D_255_0 : (((am_code 255).drop 0).take 60).all (am_okE 255) = true := by decide +kernel
theorem am_D_255_1 : ((am_code 255).drop 60).all (am_okE 255) = true := by decide +kernel
theorem am_D_255 : (am_code 255).all (am_okE 255) = true := am_all_app 60 am_D_255_0 (am_D_255_1)
theorem am_D_256 : (am_code 256).all (am_okE 256) = true := by decide +kernel
theorem am_D_257 : (am_code 257).all (am_okE 257) = true := by decide +kernel
theorem am_D_258 : (am_code 258).all (am_okE 258) = true := by decide +kernel
theorem am_D_259 : (am_code 259).all (am_okE 259) = true := by decide +kernel
theorem am_D_260 : (am_code 260).all (am_okE 260) = true := by decide +kernel
theorem am_D_261 : (am_code 261).all (am_okE 261) = true := by decide +kernel
theorem am_D_262 : (am_code 262).all (am_okE 262) = true := by decide +kernel
theorem am_D_263 : (am_code 263).all (am_okE 263) = true := by decide +kernel
theorem am_D_264 : (am_code 264).all (am_okE 264) = true := by decide +kernel
theorem am_D_265_0 : (((am_code 265).drop 0).take 60).all (am_okE 265) = true := by decide +kernel
theorem am_D_265_1 : ((am_code 265).drop 60).all (am_okE 265) = true := by decide +kernel
theorem am_D_265 : (am_code 265).all (am_okE 265) = true := am_all_app 60 am_D_265_0 (am_D_265_1)
theorem am_D_266 : (am_code 266).all (am_okE 266) = true := by decide +kernel
theorem am_D_267 : (am_code 267).all (am_okE 267) = true := by decide +kernel
theorem am_D_268_0 : (((am_code 268).drop 0).take 60).all (am_okE 268) = true := by decide +kernel
theorem am_D_268_1 : ((am_code 268).drop 60).all (am_okE 268) = true := by decide +kernel
theorem am_D_268 : (am_code 268).all (am_okE 268) = true := am_all_app 60 am_D_268_0 (am_D_268_1)
theorem am_D_269_0 : (((am_code 269).drop 0).take 60).all (am_okE 269) = true := by decide +kernel
theorem am_D_269_1 : ((am_code 269).drop 60).all (am_okE 269) = true := by decide +kernel
theorem am_D_269 : (am_code 269).all (am_okE 269) = true := am_all_app 60 am_D_269_0 (am_D_269_1)
theorem am_D_270_0 : (((am_code 270).drop 0).take 60).all (am_okE 270) = true := by decide +kernel
theorem am_D_270_1 : ((am_code 270).drop 60).all (am_okE 270) = true := by decide +kernel
theorem am_D_270 : (am_code 270).all (am_okE 270) = true := am_all_app 60 am_D_270_0 (am_D_270_1)
theorem am_D_271_0 : (((am_code 271).drop 0).take 60).all (am_okE 271) = true := by decide +kernel
theorem am_D_271_1 : ((am_code 271).drop 60).all (am_okE 271) = true := by decide +kernel
theorem am_D_271 : (am_code 271).all (am_okE 271) = true := am_all_app 60 am_D_271_0 (am_D_271_1)
theorem am_D_272_0 : (((am_code 272).drop 0).take 60).all (am_okE 272) = true := by decide +kernel
theorem am_D_272_1 : ((am_code 272).drop 60).all (am_okE 272) = true := by decide +kernel
theorem am_D_272 : (am_code 272).all (am_okE 272) = true := am_all_app 60 am_D_272_0 (am_D_272_1)
theorem am_D_273_0 : (((am_code 273).drop 0).take 60).all (am_okE 273) = true := by decide +kernel
theorem am_D_273_1 : ((am_code 273).drop 60).all (am_okE 273) = true := by decide +kernel
theorem am_D_273 : (am_code 273).all (am_okE 273) = true := am_all_app 60 am_D_273_0 (am_D_273_1)
theorem am_D_274_0 : (((am_code 274).drop 0).take 60).all (am_okE 274) = true := by decide +kernel
theorem am_D_274_1 : ((am_code 274).drop 60).all (am_okE 274) = true := by decide +kernel
theorem am_D_274 : (am_code 274).all (am_okE 274) = true := am_all_app 60 am_D_274_0 (am_D_274_1)
theorem am_D_275_0 : (((am_code 275).drop 0).take 60).all (am_okE 275) = true := by decide +kernel
theorem am_D_275_1 : ((am_code 275).drop 60).all (am_okE 275) = true := by decide +kernel
theorem am_D_275 : (am_code 275).all (am_okE 275) = true := am_all_app 60 am_D_275_0 (am_D_275_1)
