theorem am_D_276_0 : (((am_code 276).drop 0).take 60).all (am_okE 276) = true := by decide +kernel
theorem am_D_276_1 : ((am_code 276).drop 60).all (am_okE 276) = true := by decide +kernel
theorem am_D_276 : (am_code 276).all (am_okE 276) = true := am_all_app 60 am_D_276_0 (am_D_276_1)
theorem am_D_277 : (am_code 277).all (am_okE 277) = true := by decide +kernel
theorem am_D_278 : (am_code 278).all (am_okE 278) = true := by decide +kernel
theorem am_D_279 : (am_code 279).all (am_okE 279) = true := by decide +kernel
theorem am_D_280_0 : (((am_code 280).drop 0).take 60).all (am_okE 280) = true := by decide +kernel
theorem am_D_280_1 : ((am_code 280).drop 60).all (am_okE 280) = true := by decide +kernel
theorem am_D_280 : (am_code 280).all (am_okE 280) = true := am_all_app 60 am_D_280_0 (am_D_280_1)
theorem am_D_281_0 : (((am_code 281).drop 0).take 60).all (am_okE 281) = true := by decide +kernel
theorem am_D_281_1 : ((am_code 281).drop 60).all (am_okE 281) = true := by decide +kernel
theorem am_D_281 : (am_code 281).all (am_okE 281) = true := am_all_app 60 am_D_281_0 (am_D_281_1)
theorem am_D_282_0 : (((am_code 282).drop 0).take 60).all (am_okE 282) = true := by decide +kernel
theorem am_D_282_1 : ((am_code 282).drop 60).all (am_okE 282) = true := by decide +kernel
theorem am_D_282 : (am_code 282).all (am_okE 282) = true := am_all_app 60 am_D_282_0 (am_D_282_1)
theorem am_D_283 : (am_code 283).all (am_okE 283) = true := by decide +kernel
theorem am_D_284 : (am_code 284).all (am_okE 284) = true := by decide +kernel
theorem am_D_285 : (am_code 285).all (am_okE 285) = true := by decide +kernel
theorem am_D_286 : (am_code 286).all (am_okE 286) = true := by decide +kernel
theorem am_D_287 : (am_code 287).all (am_okE 287) = true := by decide +kernel
theorem am_D_288_0 : (((am_code 288).drop 0).take 60).all (am_okE 288) = true := by decide +kernel
theorem am_D_288_1 : ((am_code 288).drop 60).all (am_okE 288) = true := by decide +kernel
theorem am_D_288 : (am_code 288).all (am_okE 288) = true := am_all_app 60 am_D_288_0 (am_D_288_1)
theorem am_D_289 : (am_code 289).all (am_okE 289) = true := by decide +kernel
theorem am_D_290 : (am_code 290).all (am_okE 290) = true := by decide +kernel
theorem am_D_291_0 : (((am_code 291).drop 0).take 60).all (am_okE 291) = true := by decide +kernel
theorem am_D_291_1 : ((am_code 291).drop 60).all (am_okE 291) = true := by decide +kernel
theorem am_D_291 : (am_code 291).all (am_okE 291) = true := am_all_app 60 am_D_291_0 (am_D_291_1)
theorem am_D_292 : (am_code 292).all (am_okE 292) = true := by decide +kernel
theorem am_D_293 : (am_code 293).all (am_okE 293) = true := by decide +kernel
theorem am_D_294 : (am_code 294).all (am_okE 294) = true := by decide +kernel
theorem am_D_295 : (am_code 295).all (am_okE 295) = true := by decide +kernel
theorem am_D_296 : (am_code 296).all (am_okE 296) = true := by decide +kernel
theorem am_D_297 : (am_code 297).all (am_okE 297) = true := by decide +kernel
theorem am_D_298 : (am_code 298).all (am_okE 298) = true := by decide +kernel
theorem am_D_299 : (am_code 299).all (am_okE 299) = true := by decide +kernel
theorem am_D_300 : (am_code 300).all (am_okE 300) = true := by decide +kernel
theorem am_D_301 : (am_code 301).all (am_okE 301) = true := by decide +kernel
theorem am_D_302 : (am_code 302).all (am_okE 302) = true := by decide +kernel
theorem am_D_303 : (am_code 303).all (am_okE 303) = true := by decide +kernel
theorem am_D_304 : (am_code 304).all (am_okE 304) = true := by decide +kernel
theorem am_D_305 : (am_code 305).all (am_okE 305) = true := by decide +kernel
theorem am_D_306 : (am_code 306).all (am_okE 306) = true := by decide +kernel
theorem am_D_307 : (am_code 307).all (am_okE 307) = true := by decide +kernel
theorem am_D_308 : (am_code 308).all (am_okE 308) = true := by decide +kernel
theorem am_D_309 : (am_code 309).all (am_okE 309) = true := by decide +kernel
theorem am_D_310 : (am_code 310).all (am_okE 310) = true := by decide +kernel
theorem am_D_311 : (am_code 311).all (am_okE 311) = true := by decide +kernel
theorem am_D_312_0 : (((am_code 312).drop 0).take 60).all (am_okE 312) = true := by decide +kernel
theorem am_D_312_1 : (((am_code 312).drop 60).take 60).all (am_okE 312) = true := by decide +kernel
theorem am_D_312_2 : ((am_code 312).drop 120).all (am_okE 312) = true := by decide +kernel
theorem am_D_312 : (am_code 312).all (am_okE 312) = true := am_all_app 60 am_D_312_0 (am_all_app 60 am_D_312_1 (by first | (rw [List.drop_drop]; exact am_D_312_2) | exact am_D_312_2))
theorem am_D_313 : (am_code 313).all (am_okE 313) = true := by decide +kernel
theorem am_D_314 : (am_code 314).all (am_okE 314) = true := by decide +kernel
theorem am_D_315 : (am_code 315).all (am_okE 315) = true := by decide +kernel
theorem am_D_316 : (am_code 316).all (am_okE 316) = true := by decide +kernel
theorem am_D_317 : (am_code 317).all (am_okE 317) = true := by decide +kernel
theorem am_D_318 : (am_code 318).all (am_okE 318) = true := by decide +kernel
theorem am_D_319 : (am_code 319).all (am_okE 319) = true := by decide +kernel
theorem am_D_320 : (am_code 320).all (am_okE 320) = true := by decide +kernel
theorem am_D_321 : (am_code 321).all (am_okE 321) = true := by decide +kernel
theorem am_D_322 : (am_code 322).all (am_okE 322) = true := by decide +kernel
theorem am_D_323 : (am_code 323).all (am_okE 323) = true := by decide +kernel
theorem am_D_324 : (am_code 324).all (am_okE 324) = true := by decide +kernel
theorem am_D_325 : (am_code 325).all (am_okE 325) = true := by decide +kernel
theorem am_D_326 : (am_code 326).all (am_okE 326) = true := by decide +kernel
