set_option maxRecDepth 100000 in
theorem okd_250 : kd_250.all (okE (mOwn 250) (mCd 250)) = true := by decide +kernel
set_option maxRecDepth 100000 in
theorem okd_251 : kd_251.all (okE (mOwn 251) (mCd 251)) = true := by decide +kernel
set_option maxRecDepth 100000 in
theorem okd_252 : kd_252.all (okE (mOwn 252) (mCd 252)) = true := by decide +kernel
set_option maxRecDepth 100000 in
theorem okd_253 : kd_253.all (okE (mOwn 253) (mCd 253)) = true := by decide +kernel
set_option maxRecDepth 100000 in
theorem okd_254 : kd_254.all (okE (mOwn 254) (mCd 254)) = true := by decide +kernel
set_option maxRecDepth 100000 in
theorem okd_255 : kd_255.all (okE (mOwn 255) (mCd 255)) = true := by decide +kernel
set_option maxRecDepth 100000 in
theorem okd_256 : kd_256.all (okE (mOwn 256) (mCd 256)) = true := by decide +kernel
set_option maxRecDepth 100000 in
theorem okd_257 : kd_257.all (okE (mOwn 257) (mCd 257)) = true := by decide +kernel
set_option maxRecDepth 100000 in
theorem okd_258 : kd_258.all (okE (mOwn 258) (mCd 258)) = true := by decide +kernel
set_option maxRecDepth 100000 in
theorem okd_259 : kd_259.all (okE (mOwn 259) (mCd 259)) = true := by decide +kernel
set_option maxRecDepth 100000 in
theorem okd_260 : kd_260.all (okE (mOwn 260) (mCd 260)) = true := by decide +kernel
set_option maxRecDepth 100000 in
theorem okd_261 : kd_261.all (okE (mOwn 261) (mCd 261)) = true := by decide +kernel
set_option maxRecDepth 100000 in
theorem okd_262 : kd_262.all (okE (mOwn 262) (mCd 262)) = true := by decide +kernel
set_option maxRecDepth 100000 in
theorem okd_263 : kd_263.all (okE (mOwn 263) (mCd 263)) = true := by decide +kernel
set_option maxRecDepth 100000 in
theorem okd_264 : kd_264.all (okE (mOwn 264) (mCd 264)) = true := by decide +kernel
set_option maxRecDepth 100000 in
theorem okd_265 : kd_265.all (okE (mOwn 265) (mCd 265)) = true := by decide +kernel
set_option maxRecDepth 100000 in
theorem okd_266 : kd_266.all (okE (mOwn 266) (mCd 266)) = true := by decide +kernel
set_option maxRecDepth 100000 in
theorem okd_267 : kd_267.all (okE (mOwn 267) (mCd 267)) = true := by decide +kernel
set_option maxRecDepth 100000 in
theorem okd_268 : kd_268.all (okE (mOwn 268) (mCd 268)) = true := by decide +kernel
set_option maxRecDepth 100000 in
theorem okd_269 : kd_269.all (okE (mOwn 269) (mCd 269)) = true := by decide +kernel
set_option maxRecDepth 100000 in
theorem okd_270 : kd_270.all (okE (mOwn 270) (mCd 270)) = true := by decide +kernel
set_option maxRecDepth 100000 in
theorem okd_271 : kd_271.all (okE (mOwn 271) (mCd 271)) = true := by decide +kernel
set_option maxRecDepth 100000 in
theorem okd_272 : kd_272.all (okE (mOwn 272) (mCd 272)) = true := by decide +kernel
set_option maxRecDepth 100000 in
theorem okd_273 : kd_273.all (okE (mOwn 273) (mCd 273)) = true := by decide +kernel
set_option maxRecDepth 100000 in
theorem okd_274 : kd_274.all (okE (mOwn 274) (mCd 274)) = true := by decide +kernel
set_option maxRecDepth 100000 in
theorem okd_275 : kd_275.all (okE (mOwn 275) (mCd 275)) = true := by decide +kernel
set_option maxRecDepth 100000 in
theorem okd_276 : kd_276.all (okE (mOwn 276) (mCd 276)) = true := by decide +kernel
set_option maxRecDepth 100000 in
theorem okd_277 : kd_277.all (okE (mOwn 277) (mCd 277)) = true := by decide +kernel
set_option maxRecDepth 100000 in
theorem okd_278 : kd_278.all (okE (mOwn 278) (mCd 278)) = true := by decide +kernel
set_option maxRecDepth 100000 in
theorem okd_279 : kd_279.all (okE (mOwn 279) (mCd 279)) = true := by decide +kernel
set_option maxRecDepth 100000 in
theorem okd_280 : kd_280.all (okE (mOwn 280) (mCd 280)) = true := by decide +kernel
set_option maxRecDepth 100000 in
theorem okd_281 : kd_281.all (okE (mOwn 281) (mCd 281)) = true := by decide +kernel
set_option maxRecDepth 100000 in
theorem okd_282 : kd_282.all (okE (mOwn 282) (mCd 282)) = true := by decide +kernel
set_option maxRecDepth 100000 in
theorem okd_283 : kd_283.all (okE (mOwn 283) (mCd 283)) = true := by decide +kernel
set_option maxRecDepth 100000 in
theorem okd_284 : kd_284.all (okE (mOwn 284) (mCd 284)) = true := by decide +kernel
set_option maxRecDepth 100000 in
theorem okd_285 : kd_285.all (okE (mOwn 285) (mCd 285)) = true := by decide +kernel
set_option maxRecDepth 100000 in
theorem okd_286 : kd_286.all (okE (mOwn 286) (mCd 286)) = true := by decide +kernel
set_option maxRecDepth 100000 in
theorem okd_287 : kd_287.all (okE (mOwn 287) (mCd 287)) = true := by decide +kernel
set_option maxRecDepth 100000 in
theorem okd_288 : kd_288.all (okE (mOwn 288) (mCd 288)) = true := by decide +kernel
set_option maxRecDepth 100000 in
theorem okd_289 : kd_289.all (okE (mOwn 289) (mCd 289)) = true := by decide +kernel
set_option maxRecDepth 100000 in
theorem okd_290 : kd_290.all (okE (mOwn 290) (mCd 290)) = true := by decide +kernel
set_option maxRecDepth 100000 in
theorem okd_291 : kd_291.all (okE (mOwn 291) (mCd 291)) = true := by decide +kernel
set_option maxRecDepth 100000 in
theorem okd_292 : kd_292.all (okE (mOwn 292) (mCd 292)) = true := by decide +kernel
set_option maxRecDepth 100000 in
theorem okd_293 : kd_293.all (okE (mOwn 293) (mCd 293)) = true := by decide +kernel
set_option maxRecDepth 100000 in
theorem okd_294 : kd_294.all (okE (mOwn 294) (mCd 294)) = true := by decide +kernel
set_option maxRecDepth 100000 in
theorem okd_295 : kd_295.all (okE (mOwn 295) (mCd 295)) = true := by decide +kernel
set_option maxRecDepth 100000 in
theorem okd_296 : kd_296.all (okE (mOwn 296) (mCd 296)) = true := by decide +kernel
set_option maxRecDepth 100000 in
theorem okd_297 : kd_297.all (okE (mOwn 297) (mCd 297)) = true := by decide +kernel
set_option maxRecDepth 100000 in
theorem okd_298 : kd_298.all (okE (mOwn 298) (mCd 298)) = true := by decide +kernel
set_option maxRecDepth 100000 in
theorem okd_299 : kd_299.all (okE (mOwn 299) (mCd 299)) = true := by decide +kernel
set_option maxRecDepth 100000 in
theorem okd_300 : kd_300.all (okE (mOwn 300) (mCd 300)) = true := by decide +kernel
set_option maxRecDepth 100000 in
theorem okd_301 : kd_301.all (okE (mOwn 301) (mCd 301)) = true := by decide +kernel
set_option maxRecDepth 100000 in
theorem okd_302 : kd_302.all (okE (mOwn 302) (mCd 302)) = true := by decide +kernel
set_option maxRecDepth 100000 in
theorem okd_303 : kd_303.all (okE (mOwn 303) (mCd 303)) = true := by decide +kernel
set_option maxRecDepth 100000 in
theorem okd_304 : kd_304.all (okE (mOwn 304) (mCd 304)) = true := by decide +kernel
set_option maxRecDepth 100000 in
theorem okd_305 : kd_305.all (okE (mOwn 305) (mCd 305)) = true := by decide +kernel
set_option maxRecDepth 100000 in
theorem okd_306 : kd_306.all (okE (mOwn 306) (mCd 306)) = true := by decide +kernel
set_option maxRecDepth 100000 in
theorem okd_307 : kd_307.all (okE (mOwn 307) (mCd 307)) = true := by decide +kernel
set_option maxRecDepth 100000 in
theorem okd_308 : kd_308.all (okE (mOwn 308) (mCd 308)) = true := by decide +kernel
set_option maxRecDepth 100000 in
theorem okd_309 : kd_309.all (okE (mOwn 309) (mCd 309)) = true := by decide +kernel
set_option maxRecDepth 100000 in
theorem okd_310 : kd_310.all (okE (mOwn 310) (mCd 310)) = true := by decide +kernel
set_option maxRecDepth 100000 in
theorem okd_311 : kd_311.all (okE (mOwn 311) (mCd 311)) = true := by decide +kernel
set_option maxRecDepth 100000 in
theorem okd_312 : kd_312.all (okE (mOwn 312) (mCd 312)) = true := by decide +kernel
set_option maxRecDepth 100000 in
theorem okd_313 : kd_313.all (okE (mOwn 313) (mCd 313)) = true := by decide +kernel
set_option maxRecDepth 100000 in
theorem okd_314 : kd_314.all (okE (mOwn 314) (mCd 314)) = true := by decide +kernel
set_option maxRecDepth 100000 in
theorem okd_315 : kd_315.all (okE (mOwn 315) (mCd 315)) = true := by decide +kernel
set_option maxRecDepth 100000 in
theorem okd_316 : kd_316.all (okE (mOwn 316) (mCd 316)) = true := by decide +kernel
set_option maxRecDepth 100000 in
theorem okd_317 : kd_317.all (okE (mOwn 317) (mCd 317)) = true := by decide +kernel
set_option maxRecDepth 100000 in
theorem okd_318 : kd_318.all (okE (mOwn 318) (mCd 318)) = true := by decide +kernel
set_option maxRecDepth 100000 in
theorem okd_319 : kd_319.all (okE (mOwn 319) (mCd 319)) = true := by decide +kernel
set_option maxRecDepth 100000 in
theorem okd_320 : kd_320.all (okE (mOwn 320) (mCd 320)) = true := by decide +kernel
set_option maxRecDepth 100000 in
theorem okd_321 : kd_321.all (okE (mOwn 321) (mCd 321)) = true := by decide +kernel
set_option maxRecDepth 100000 in
theorem okd_322 : kd_322.all (okE (mOwn 322) (mCd 322)) = true := by decide +kernel
set_option maxRecDepth 100000 in
theorem okd_323 : kd_323.all (okE (mOwn 323) (mCd 323)) = true := by decide +kernel
set_option maxRecDepth 100000 in
theorem okd_324 : kd_324.all (okE (mOwn 324) (mCd 324)) = true := by decide +kernel
set_option maxRecDepth 100000 in
theorem okd_325 : kd_325.all (okE (mOwn 325) (mCd 325)) = true := by decide +kernel
set_option maxRecDepth 100000 in
theorem okd_326 : kd_326.all (okE (mOwn 326) (mCd 326)) = true := by decide +kernel
set_option maxRecDepth 100000 in
theorem okd_327 : kd_327.all (okE (mOwn 327) (mCd 327)) = true := by decide +kernel
set_option maxRecDepth 100000 in
theorem okd_328 : kd_328.all (okE (mOwn 328) (mCd 328)) = true := by decide +kernel
set_option maxRecDepth 100000 in
theorem okd_329 : kd_329.all (okE (mOwn 329) (mCd 329)) = true := by decide +kernel
set_option maxRecDepth 100000 in
theorem okd_330 : kd_330.all (okE (mOwn 330) (mCd 330)) = true := by decide +kernel
set_option maxRecDepth 100000 in
theorem okd_331 : kd_331.all (okE (mOwn 331) (mCd 331)) = true := by decide +kernel
set_option maxRecDepth 100000 in
theorem okd_332 : kd_332.all (okE (mOwn 332) (mCd 332)) = true := by decide +kernel
set_option maxRecDepth 100000 in
theorem okd_333 : kd_333.all (okE (mOwn 333) (mCd 333)) = true := by decide +kernel
set_option maxRecDepth 100000 in
theorem okd_334 : kd_334.all (okE (mOwn 334) (mCd 334)) = true := by decide +kernel
set_option maxRecDepth 100000 in
theorem okd_335 : kd_335.all (okE (mOwn 335) (mCd 335)) = true := by decide +kernel
set_option maxRecDepth 100000 in
theorem okd_336 : kd_336.all (okE (mOwn 336) (mCd 336)) = true := by decide +kernel
set_option maxRecDepth 100000 in
theorem okd_337 : kd_337.all (okE (mOwn 337) (mCd 337)) = true := by decide +kernel
set_option maxRecDepth 100000 in
theorem okd_338 : kd_338.all (okE (mOwn 338) (mCd 338)) = true := by decide +kernel
set_option maxRecDepth 100000 in
theorem okd_339 : kd_339.all (okE (mOwn 339) (mCd 339)) = true := by decide +kernel
set_option maxRecDepth 100000 in
theorem okd_340 : kd_340.all (okE (mOwn 340) (mCd 340)) = true := by decide +kernel
set_option maxRecDepth 100000 in
theorem okd_341 : kd_341.all (okE (mOwn 341) (mCd 341)) = true := by decide +kernel
set_option maxRecDepth 100000 in
theorem okd_342 : kd_342.all (okE (mOwn 342) (mCd 342)) = true := by decide +kernel
set_option maxRecDepth 100000 in
theorem okd_343 : kd_343.all (okE (mOwn 343) (mCd 343)) = true := by decide +kernel
set_option maxRecDepth 100000 in
theorem okd_344 : kd_344.all (okE (mOwn 344) (mCd 344)) = true := by decide +kernel
set_option maxRecDepth 100000 in
theorem okd_345 : kd_345.all (okE (mOwn 345) (mCd 345)) = true := by decide +kernel
set_option maxRecDepth 100000 in
theorem okd_346 : kd_346.all (okE (mOwn 346) (mCd 346)) = true := by decide +kernel
set_option maxRecDepth 100000 in
theorem okd_347 : kd_347.all (okE (mOwn 347) (mCd 347)) = true := by decide +kernel
set_option maxRecDepth 100000 in
theorem okd_348 : kd_348.all (okE (mOwn 348) (mCd 348)) = true := by decide +kernel
set_option maxRecDepth 100000 in
theorem okd_349 : kd_349.all (okE (mOwn 349) (mCd 349)) = true := by decide +kernel
set_option maxRecDepth 100000 in
theorem okd_350 : kd_350.all (okE (mOwn 350) (mCd 350)) = true := by decide +kernel
set_option maxRecDepth 100000 in
theorem okd_351 : kd_351.all (okE (mOwn 351) (mCd 351)) = true := by decide +kernel
set_option maxRecDepth 100000 in
theorem okd_352 : kd_352.all (okE (mOwn 352) (mCd 352)) = true := by decide +kernel
set_option maxRecDepth 100000 in
theorem okd_353 : kd_353.all (okE (mOwn 353) (mCd 353)) = true := by decide +kernel
set_option maxRecDepth 100000 in
theorem okd_354 : kd_354.all (okE (mOwn 354) (mCd 354)) = true := by decide +kernel
set_option maxRecDepth 100000 in
theorem okd_355 : kd_355.all (okE (mOwn 355) (mCd 355)) = true := by decide +kernel
set_option maxRecDepth 100000 in
theorem okd_356 : kd_356.all (okE (mOwn 356) (mCd 356)) = true := by decide +kernel
set_option maxRecDepth 100000 in
theorem okd_357 : kd_357.all (okE (mOwn 357) (mCd 357)) = true := by decide +kernel
set_option maxRecDepth 100000 in
theorem okd_358 : kd_358.all (okE (mOwn 358) (mCd 358)) = true := by decide +kernel
set_option maxRecDepth 100000 in
theorem okd_359 : kd_359.all (okE (mOwn 359) (mCd 359)) = true := by decide +kernel
set_option maxRecDepth 100000 in
theorem okd_360 : kd_360.all (okE (mOwn 360) (mCd 360)) = true := by decide +kernel
set_option maxRecDepth 100000 in
theorem okd_361 : kd_361.all (okE (mOwn 361) (mCd 361)) = true := by decide +kernel
