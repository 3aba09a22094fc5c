theorem am_D_222 : (cd_X12_fault).all (am_okE2 cX12_fault 12 (some .int) "fault") = true := by decide +kernel
theorem am_D_223 : (cd_X12_where).all (am_okE2 cX12_where 12 (some .int) "where") = true := by decide +kernel
theorem am_D_224 : (cd_X12_isMan).all (am_okE2 cX12_isMan 12 (some .boolean) "isMan") = true := by decide +kernel
theorem am_D_225 : (cd_X12_isTen).all (am_okE2 cX12_isTen 12 (some .boolean) "isTen") = true := by decide +kernel
theorem am_D_226 : (cd_X12_kindOf).all (am_okE2 cX12_kindOf 12 (some .int) "kindOf") = true := by decide +kernel
theorem am_D_227 : (cd_X12_asItIs).all (am_okE2 cX12_asItIs 12 (none) "asItIs") = true := by decide +kernel
theorem am_D_228 : (cd_X12_nerveOf).all (am_okE2 cX12_nerveOf 12 (some .int) "nerveOf") = true := by decide +kernel
theorem am_D_229 : (cd_X12_weightOf).all (am_okE2 cX12_weightOf 12 (some .int) "weightOf") = true := by decide +kernel
theorem am_D_230_0 : ((cd_X12_runOf.drop 0).take 60).all (am_okE2 cX12_runOf 12 (some .int) "runOf") = true := by decide +kernel
theorem am_D_230_1 : (cd_X12_runOf.drop 60).all (am_okE2 cX12_runOf 12 (some .int) "runOf") = true := by decide +kernel
theorem am_D_230 : (cd_X12_runOf).all (am_okE2 cX12_runOf 12 (some .int) "runOf") = true := am_all_app 60 am_D_230_0 (am_D_230_1)
theorem am_D_231 : (cd_X12_doesHold).all (am_okE2 cX12_doesHold 12 (some .boolean) "doesHold") = true := by decide +kernel
theorem am_D_232 : (cd_X12_inTen).all (am_okE2 cX12_inTen 12 (some .int) "inTen") = true := by decide +kernel
theorem am_D_233 : (cd_X12_beansOf).all (am_okE2 cX12_beansOf 12 (some .int) "beansOf") = true := by decide +kernel
theorem am_D_234 : (cd_X12_angerOf).all (am_okE2 cX12_angerOf 12 (some .int) "angerOf") = true := by decide +kernel
theorem am_D_235 : (cd_X12_isMutiny).all (am_okE2 cX12_isMutiny 12 (some .boolean) "isMutiny") = true := by decide +kernel
theorem am_D_236_0 : ((cd_X12_draws.drop 0).take 60).all (am_okE2 cX12_draws 12 (none) "draws") = true := by decide +kernel
theorem am_D_236_1 : (cd_X12_draws.drop 60).all (am_okE2 cX12_draws 12 (none) "draws") = true := by decide +kernel
theorem am_D_236 : (cd_X12_draws).all (am_okE2 cX12_draws 12 (none) "draws") = true := am_all_app 60 am_D_236_0 (am_D_236_1)
theorem am_D_237_0 : ((cd_X12_man.drop 0).take 60).all (am_okE2 cX12_man 12 (some .int) "man") = true := by decide +kernel
theorem am_D_237_1 : (cd_X12_man.drop 60).all (am_okE2 cX12_man 12 (some .int) "man") = true := by decide +kernel
theorem am_D_237 : (cd_X12_man).all (am_okE2 cX12_man 12 (some .int) "man") = true := am_all_app 60 am_D_237_0 (am_D_237_1)
theorem am_D_238 : (cd_X12_ten).all (am_okE2 cX12_ten 12 (some .int) "ten") = true := by decide +kernel
theorem am_D_239 : (cd_X12_there).all (am_okE2 cX12_there 12 (some .int) "there") = true := by decide +kernel
theorem am_D_240 : (cd_X12_anger).all (am_okE2 cX12_anger 12 (some .int) "anger") = true := by decide +kernel
theorem am_D_241 : (cd_X12_mutiny).all (am_okE2 cX12_mutiny 12 (some .int) "mutiny") = true := by decide +kernel
theorem am_D_242 : (cd_X12_startWhy).all (am_okE2 cX12_startWhy 12 (some .int) "startWhy") = true := by decide +kernel
theorem am_D_243 : (cd_X12_runs).all (am_okE2 cX12_runs 12 (some .int) "runs") = true := by decide +kernel
theorem am_D_244 : (cd_X12_holds).all (am_okE2 cX12_holds 12 (some .int) "holds") = true := by decide +kernel
theorem am_D_245 : (cd_X12_worst).all (am_okE2 cX12_worst 12 (some .int) "worst") = true := by decide +kernel
theorem am_D_246 : (cd_X12_breaks).all (am_okE2 cX12_breaks 12 (some .int) "breaks") = true := by decide +kernel
theorem am_D_247 : (cd_X12_brace).all (am_okE2 cX12_brace 12 (some .int) "brace") = true := by decide +kernel
theorem am_D_248_0 : ((cd_X12_toHearten.drop 0).take 60).all (am_okE2 cX12_toHearten 12 (some .int) "toHearten") = true := by decide +kernel
theorem am_D_248_1 : (cd_X12_toHearten.drop 60).all (am_okE2 cX12_toHearten 12 (some .int) "toHearten") = true := by decide +kernel
theorem am_D_248 : (cd_X12_toHearten).all (am_okE2 cX12_toHearten 12 (some .int) "toHearten") = true := am_all_app 60 am_D_248_0 (am_D_248_1)
theorem am_D_249 : (cd_X12_fearFor).all (am_okE2 cX12_fearFor 12 (some .int) "fearFor") = true := by decide +kernel
theorem am_D_250 : (cd_X12_begin).all (am_okE2 cX12_begin 12 (none) "begin") = true := by decide +kernel
theorem am_D_251_0 : ((cd_X12_countsAt.drop 0).take 60).all (am_okE2 cX12_countsAt 12 (none) "countsAt") = true := by decide +kernel
theorem am_D_251_1 : (cd_X12_countsAt.drop 60).all (am_okE2 cX12_countsAt 12 (none) "countsAt") = true := by decide +kernel
theorem am_D_251 : (cd_X12_countsAt).all (am_okE2 cX12_countsAt 12 (none) "countsAt") = true := am_all_app 60 am_D_251_0 (am_D_251_1)
theorem am_D_252_0 : (((cd_X12_tryLots 9999).drop 0).take 60).all (am_okE2 cX12_tryLots 12 (none) "tryLots") = true := by decide +kernel
theorem am_D_252_1 : ((cd_X12_tryLots 9999).drop 60).all (am_okE2 cX12_tryLots 12 (none) "tryLots") = true := by decide +kernel
theorem am_D_252 : ((cd_X12_tryLots 9999)).all (am_okE2 cX12_tryLots 12 (none) "tryLots") = true := am_all_app 60 am_D_252_0 (am_D_252_1)
theorem am_D_253_0 : (((cd_X12_tryLots 252).drop 0).take 60).all (am_okE2 cX12_tryLots 12 (none) "tryLots") = true := by decide +kernel
theorem am_D_253_1 : ((cd_X12_tryLots 252).drop 60).all (am_okE2 cX12_tryLots 12 (none) "tryLots") = true := by decide +kernel
theorem am_D_253 : ((cd_X12_tryLots 252)).all (am_okE2 cX12_tryLots 12 (none) "tryLots") = true := am_all_app 60 am_D_253_0 (am_D_253_1)
theorem am_D_254_0 : (((cd_X12_tryLots 253).drop 0).take 60).all (am_okE2 cX12_tryLots 12 (none) "tryLots") = true := by decide +kernel
theorem am_D_254_1 : ((cd_X12_tryLots 253).drop 60).all (am_okE2 cX12_tryLots 12 (none) "tryLots") = true := by decide +kernel
theorem am_D_254 : ((cd_X12_tryLots 253)).all (am_okE2 cX12_tryLots 12 (none) "tryLots") = true := am_all_app 60 am_D_254_0 (am_D_254_1)
theorem am_D_255_0 : (((cd_X12_tryLots 254).drop 0).take 60).all (am_okE2 cX12_tryLots 12 (none) "tryLots") = true := by decide +kernel
theorem am_D_255_1 : ((cd_X12_tryLots 254).drop 60).all (am_okE2 cX12_tryLots 12 (none) "tryLots") = true := by decide +kernel
theorem am_D_255 : ((cd_X12_tryLots 254)).all (am_okE2 cX12_tryLots 12 (none) "tryLots") = true := am_all_app 60 am_D_255_0 (am_D_255_1)
theorem am_D_256 : (cd_X12_tryOne).all (am_okE2 cX12_tryOne 12 (none) "tryOne") = true := by decide +kernel
theorem am_D_257 : (cd_X12_tenWhy).all (am_okE2 cX12_tenWhy 12 (some .int) "tenWhy") = true := by decide +kernel
theorem am_D_258 : (cd_X12_lotWhy).all (am_okE2 cX12_lotWhy 12 (some .int) "lotWhy") = true := by decide +kernel
theorem am_D_259 : (cd_X12_sets).all (am_okE2 cX12_sets 12 (some .int) "sets") = true := by decide +kernel
theorem am_D_260 : (cd_X12_drawn).all (am_okE2 cX12_drawn 12 (some .long) "drawn") = true := by decide +kernel
theorem am_D_261 : (cd_X12_holdsAfter).all (am_okE2 cX12_holdsAfter 12 (some .long) "holdsAfter") = true := by decide +kernel
theorem am_D_262 : (cd_X12_mutinyAfter).all (am_okE2 cX12_mutinyAfter 12 (some .long) "mutinyAfter") = true := by decide +kernel
theorem am_D_263 : (cd_X12_runsAfter).all (am_okE2 cX12_runsAfter 12 (some .long) "runsAfter") = true := by decide +kernel
theorem am_D_264 : (cd_X12_worstSet).all (am_okE2 cX12_worstSet 12 (some .int) "worstSet") = true := by decide +kernel
theorem am_D_265_0 : ((cd_X12_orderOf.drop 0).take 60).all (am_okE2 cX12_orderOf 12 (some .int) "orderOf") = true := by decide +kernel
theorem am_D_265_1 : (cd_X12_orderOf.drop 60).all (am_okE2 cX12_orderOf 12 (some .int) "orderOf") = true := by decide +kernel
theorem am_D_265 : (cd_X12_orderOf).all (am_okE2 cX12_orderOf 12 (some .int) "orderOf") = true := am_all_app 60 am_D_265_0 (am_D_265_1)
theorem am_D_266 : (cd_X12_order).all (am_okE2 cX12_order 12 (some .int) "order") = true := by decide +kernel
theorem am_D_267 : (cd_X12_orderOdds).all (am_okE2 cX12_orderOdds 12 (some .long) "orderOdds") = true := by decide +kernel
theorem am_D_268_0 : (((cd_X12_tryTens 9999).drop 0).take 60).all (am_okE2 cX12_tryTens 12 (none) "tryTens") = true := by decide +kernel
theorem am_D_268_1 : ((cd_X12_tryTens 9999).drop 60).all (am_okE2 cX12_tryTens 12 (none) "tryTens") = true := by decide +kernel
theorem am_D_268 : ((cd_X12_tryTens 9999)).all (am_okE2 cX12_tryTens 12 (none) "tryTens") = true := am_all_app 60 am_D_268_0 (am_D_268_1)
theorem am_D_269_0 : (((cd_X12_tryTens 268).drop 0).take 60).all (am_okE2 cX12_tryTens 12 (none) "tryTens") = true := by decide +kernel
theorem am_D_269_1 : ((cd_X12_tryTens 268).drop 60).all (am_okE2 cX12_tryTens 12 (none) "tryTens") = true := by decide +kernel
theorem am_D_269 : ((cd_X12_tryTens 268)).all (am_okE2 cX12_tryTens 12 (none) "tryTens") = true := am_all_app 60 am_D_269_0 (am_D_269_1)
theorem am_D_270_0 : (((cd_X12_tryTens 269).drop 0).take 60).all (am_okE2 cX12_tryTens 12 (none) "tryTens") = true := by decide +kernel
theorem am_D_270_1 : ((cd_X12_tryTens 269).drop 60).all (am_okE2 cX12_tryTens 12 (none) "tryTens") = true := by decide +kernel
theorem am_D_270 : ((cd_X12_tryTens 269)).all (am_okE2 cX12_tryTens 12 (none) "tryTens") = true := am_all_app 60 am_D_270_0 (am_D_270_1)
theorem am_D_271_0 : (((cd_X12_tryTens 270).drop 0).take 60).all (am_okE2 cX12_tryTens 12 (none) "tryTens") = true := by decide +kernel
theorem am_D_271_1 : ((cd_X12_tryTens 270).drop 60).all (am_okE2 cX12_tryTens 12 (none) "tryTens") = true := by decide +kernel
theorem am_D_271 : ((cd_X12_tryTens 270)).all (am_okE2 cX12_tryTens 12 (none) "tryTens") = true := am_all_app 60 am_D_271_0 (am_D_271_1)
theorem am_D_272_0 : (((cd_X12_tryTens 271).drop 0).take 60).all (am_okE2 cX12_tryTens 12 (none) "tryTens") = true := by decide +kernel
theorem am_D_272_1 : ((cd_X12_tryTens 271).drop 60).all (am_okE2 cX12_tryTens 12 (none) "tryTens") = true := by decide +kernel
theorem am_D_272 : ((cd_X12_tryTens 271)).all (am_okE2 cX12_tryTens 12 (none) "tryTens") = true := am_all_app 60 am_D_272_0 (am_D_272_1)
theorem am_D_273_0 : (((cd_X12_tryTens 272).drop 0).take 60).all (am_okE2 cX12_tryTens 12 (none) "tryTens") = true := by decide +kernel
theorem am_D_273_1 : ((cd_X12_tryTens 272).drop 60).all (am_okE2 cX12_tryTens 12 (none) "tryTens") = true := by decide +kernel
theorem am_D_273 : ((cd_X12_tryTens 272)).all (am_okE2 cX12_tryTens 12 (none) "tryTens") = true := am_all_app 60 am_D_273_0 (am_D_273_1)
theorem am_D_274_0 : (((cd_X12_tryTens 273).drop 0).take 60).all (am_okE2 cX12_tryTens 12 (none) "tryTens") = true := by decide +kernel
theorem am_D_274_1 : ((cd_X12_tryTens 273).drop 60).all (am_okE2 cX12_tryTens 12 (none) "tryTens") = true := by decide +kernel
theorem am_D_274 : ((cd_X12_tryTens 273)).all (am_okE2 cX12_tryTens 12 (none) "tryTens") = true := am_all_app 60 am_D_274_0 (am_D_274_1)
theorem am_D_275_0 : (((cd_X12_tryTens 274).drop 0).take 60).all (am_okE2 cX12_tryTens 12 (none) "tryTens") = true := by decide +kernel
theorem am_D_275_1 : ((cd_X12_tryTens 274).drop 60).all (am_okE2 cX12_tryTens 12 (none) "tryTens") = true := by decide +kernel
theorem am_D_275 : ((cd_X12_tryTens 274)).all (am_okE2 cX12_tryTens 12 (none) "tryTens") = true := am_all_app 60 am_D_275_0 (am_D_275_1)
