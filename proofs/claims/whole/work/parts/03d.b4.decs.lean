theorem am_D_276_0 : (((cd_X12_tryTens 275).drop 0).take 60).all (am_okE2 cX12_tryTens 12 (none) "tryTens") = true := by decide +kernel
theorem am_D_276_1 : ((cd_X12_tryTens 275).drop 60).all (am_okE2 cX12_tryTens 12 (none) "tryTens") = true := by decide +kernel
theorem am_D_276 : ((cd_X12_tryTens 275)).all (am_okE2 cX12_tryTens 12 (none) "tryTens") = true := am_all_app 60 am_D_276_0 (am_D_276_1)
theorem am_D_277 : (cd_X12_seekTens).all (am_okE2 cX12_seekTens 12 (some .int) "seekTens") = true := by decide +kernel
theorem am_D_278 : (cd_X12_friends).all (am_okE2 cX12_friends 12 (some .int) "friends") = true := by decide +kernel
theorem am_D_279 : (cd_X12_newTen).all (am_okE2 cX12_newTen 12 (some .int) "newTen") = true := by decide +kernel
theorem am_D_280_0 : ((cd_X12_friendsNow.drop 0).take 60).all (am_okE2 cX12_friendsNow 12 (some .int) "friendsNow") = true := by decide +kernel
theorem am_D_280_1 : (cd_X12_friendsNow.drop 60).all (am_okE2 cX12_friendsNow 12 (some .int) "friendsNow") = true := by decide +kernel
theorem am_D_280 : (cd_X12_friendsNow).all (am_okE2 cX12_friendsNow 12 (some .int) "friendsNow") = true := am_all_app 60 am_D_280_0 (am_D_280_1)
theorem am_D_281_0 : ((cd_X12_drawsBean.drop 0).take 60).all (am_okE2 cX12_drawsBean 12 (none) "drawsBean") = true := by decide +kernel
theorem am_D_281_1 : (cd_X12_drawsBean.drop 60).all (am_okE2 cX12_drawsBean 12 (none) "drawsBean") = true := by decide +kernel
theorem am_D_281 : (cd_X12_drawsBean).all (am_okE2 cX12_drawsBean 12 (none) "drawsBean") = true := am_all_app 60 am_D_281_0 (am_D_281_1)
theorem am_D_282_0 : ((cd_X12_layHelmet.drop 0).take 60).all (am_okE2 cX12_layHelmet 12 (none) "layHelmet") = true := by decide +kernel
theorem am_D_282_1 : (cd_X12_layHelmet.drop 60).all (am_okE2 cX12_layHelmet 12 (none) "layHelmet") = true := by decide +kernel
theorem am_D_282 : (cd_X12_layHelmet).all (am_okE2 cX12_layHelmet 12 (none) "layHelmet") = true := am_all_app 60 am_D_282_0 (am_D_282_1)
theorem am_D_283 : (cd_X12_shakenPart).all (am_okE2 cX12_shakenPart 12 (some .long) "shakenPart") = true := by decide +kernel
theorem am_D_284 : (cd_X12_honestPart).all (am_okE2 cX12_honestPart 12 (some .long) "honestPart") = true := by decide +kernel
theorem am_D_285 : (cd_X12_doubtOf).all (am_okE2 cX12_doubtOf 12 (some .long) "doubtOf") = true := by decide +kernel
theorem am_D_286 : (cd_X12_helmetWhy).all (am_okE2 cX12_helmetWhy 12 (some .int) "helmetWhy") = true := by decide +kernel
theorem am_D_287 : (cd_X12_doubt).all (am_okE2 cX12_doubt 12 (some .long) "doubt") = true := by decide +kernel
theorem am_D_288_0 : ((cd_X12_next.drop 0).take 60).all (am_okE2 cX12_next 12 (some .long) "next") = true := by decide +kernel
theorem am_D_288_1 : (cd_X12_next.drop 60).all (am_okE2 cX12_next 12 (some .long) "next") = true := by decide +kernel
theorem am_D_288 : (cd_X12_next).all (am_okE2 cX12_next 12 (some .long) "next") = true := am_all_app 60 am_D_288_0 (am_D_288_1)
theorem am_D_289 : (cd_X12_doubtIf).all (am_okE2 cX12_doubtIf 12 (some .long) "doubtIf") = true := by decide +kernel
theorem am_D_290 : (cd_X12_honest).all (am_okE2 cX12_honest 12 (some .long) "honest") = true := by decide +kernel
theorem am_D_291_0 : ((cd_X12_doesFit.drop 0).take 60).all (am_okE2 cX12_doesFit 12 (some .boolean) "doesFit") = true := by decide +kernel
theorem am_D_291_1 : (cd_X12_doesFit.drop 60).all (am_okE2 cX12_doesFit 12 (some .boolean) "doesFit") = true := by decide +kernel
theorem am_D_291 : (cd_X12_doesFit).all (am_okE2 cX12_doesFit 12 (some .boolean) "doesFit") = true := am_all_app 60 am_D_291_0 (am_D_291_1)
theorem am_D_292 : (cd_X12_fitting).all (am_okE2 cX12_fitting 12 (some .int) "fitting") = true := by decide +kernel
theorem am_D_293 : (cd_X12_goneWhy).all (am_okE2 cX12_goneWhy 12 (some .int) "goneWhy") = true := by decide +kernel
theorem am_D_294 : (cd_X12_gone).all (am_okE2 cX12_gone 12 (some .int) "gone") = true := by decide +kernel
theorem am_D_295 : (cd_X12_goneAt).all (am_okE2 cX12_goneAt 12 (some .int) "goneAt") = true := by decide +kernel
theorem am_D_296 : (cd_X12_goneOf).all (am_okE2 cX12_goneOf 12 (some .int) "goneOf") = true := by decide +kernel
theorem am_D_297 : (cd_X12_surelyGone).all (am_okE2 cX12_surelyGone 12 (some .int) "surelyGone") = true := by decide +kernel
theorem am_D_298 : (cd_X12_leavesOf).all (am_okE2 cX12_leavesOf 12 (some .int) "leavesOf") = true := by decide +kernel
theorem am_D_299 : (cd_X12_askOf).all (am_okE2 cX12_askOf 12 (some .int) "askOf") = true := by decide +kernel
theorem am_D_300 : (cd_X12_ask).all (am_okE2 cX12_ask 12 (some .int) "ask") = true := by decide +kernel
theorem am_D_301 : (cd_X12_askLeaves).all (am_okE2 cX12_askLeaves 12 (some .int) "askLeaves") = true := by decide +kernel
theorem am_D_302 : (cd_X12_lineOf).all (am_okE2 cX12_lineOf 12 (some .int) "lineOf") = true := by decide +kernel
theorem am_D_303 : (cd_X12_dreadWhy).all (am_okE2 cX12_dreadWhy 12 (some .int) "dreadWhy") = true := by decide +kernel
theorem am_D_304 : (cd_X12_line).all (am_okE2 cX12_line 12 (some .int) "line") = true := by decide +kernel
theorem am_D_305 : (cd_X12_isRest).all (am_okE2 cX12_isRest 12 (some .boolean) "isRest") = true := by decide +kernel
theorem am_D_306 : (cd_X12_seekRests).all (am_okE2 cX12_seekRests 12 (some .int) "seekRests") = true := by decide +kernel
theorem am_D_307 : (cd_X12_rests).all (am_okE2 cX12_rests 12 (some .int) "rests") = true := by decide +kernel
theorem am_D_308 : (cd_X12_rest).all (am_okE2 cX12_rest 12 (some .int) "rest") = true := by decide +kernel
theorem am_D_309 : (cd_X12_nextDraw).all (am_okE2 cX12_nextDraw 12 (some .int) "nextDraw") = true := by decide +kernel
theorem am_D_310 : (cd_X12_kth).all (am_okE2 cX12_kth 12 (some .int) "kth") = true := by decide +kernel
theorem am_D_311 : (cd_X12_lotOf).all (am_okE2 cX12_lotOf 12 (some .int) "lotOf") = true := by decide +kernel
theorem am_D_312_0 : ((cd_X12_warsWhy.drop 0).take 60).all (am_okE2 cX12_warsWhy 12 (some .int) "warsWhy") = true := by decide +kernel
theorem am_D_312_1 : ((cd_X12_warsWhy.drop 60).take 60).all (am_okE2 cX12_warsWhy 12 (some .int) "warsWhy") = true := by decide +kernel
theorem am_D_312_2 : (cd_X12_warsWhy.drop 120).all (am_okE2 cX12_warsWhy 12 (some .int) "warsWhy") = true := by decide +kernel
theorem am_D_312 : (cd_X12_warsWhy).all (am_okE2 cX12_warsWhy 12 (some .int) "warsWhy") = true := am_all_app 60 am_D_312_0 (am_all_app 60 am_D_312_1 (am_dd 60 60 (am_D_312_2)))
theorem am_D_313 : (cd_X12_wars).all (am_okE2 cX12_wars 12 (some .int) "wars") = true := by decide +kernel
theorem am_D_314 : (cd_X12_warsLeft).all (am_okE2 cX12_warsLeft 12 (some .int) "warsLeft") = true := by decide +kernel
theorem am_D_315 : (cd_X12_warsOf).all (am_okE2 cX12_warsOf 12 (some .int) "warsOf") = true := by decide +kernel
theorem am_D_316 : (cd_X12_note).all (am_okE2 cX12_note 12 (none) "note") = true := by decide +kernel
theorem am_D_317 : (cd_X12_lot).all (am_okE2 cX12_lot 12 (some .int) "lot") = true := by decide +kernel
theorem am_D_318 : (cd_X12_braces).all (am_okE2 cX12_braces 12 (some .boolean) "braces") = true := by decide +kernel
theorem am_D_319 : (cd_X12_move).all (am_okE2 cX12_move 12 (some .boolean) "move") = true := by decide +kernel
theorem am_D_320 : (cd_X12_seed).all (am_okE2 cX12_seed 12 (some .boolean) "seed") = true := by decide +kernel
theorem am_D_321 : (cd_X12_undo).all (am_okE2 cX12_undo 12 (some .boolean) "undo") = true := by decide +kernel
theorem am_D_322 : (cd_X12_image).all (am_okE2 cX12_image 12 (some .int) "image") = true := by decide +kernel
theorem am_D_323 : (cd_X12_back).all (am_okE2 cX12_back 12 (some .boolean) "back") = true := by decide +kernel
theorem am_D_324 : (cd_X12_led).all (am_okE2 cX12_led 12 (some .int) "led") = true := by decide +kernel
theorem am_D_325 : (cd_X12_size).all (am_okE2 cX12_size 12 (some .int) "size") = true := by decide +kernel
theorem am_D_326 : (cd_X12_trouble).all (am_okE2 cX12_trouble 12 (some .int) "trouble") = true := by decide +kernel
