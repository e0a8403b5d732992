/-! THE LAW'S LOOP: its instructions, its heap: by wip/whole/mkloop.py -/
section LPIS
variable {sc : Nat × (Nat → Int32)} {fm : Value} {N T j : Nat} {xs : Nat → Int32} {x y : cS} {w : cW} {lv : rx_L} {P : rx_P}
theorem j0_23 : ri (rt_P sc fm) 0 23 (.iload 4) (25) := ri_of (by decide +kernel) rfl
theorem j0_25 : ri (rt_P sc fm) 0 25 (.aload_n 0) (26) := ri_of (by decide +kernel) rfl
theorem j0_26 : ri (rt_P sc fm) 0 26 (.arraylength) (27) := ri_of (by decide +kernel) rfl
theorem j0_27 : ri (rt_P sc fm) 0 27 (.bipush 6) (29) := ri_of (by decide +kernel) rfl
theorem j0_29 : ri (rt_P sc fm) 0 29 (.isub) (30) := ri_of (by decide +kernel) rfl
theorem j0_30 : ri (rt_P sc fm) 0 30 (.if_icmp .gt 1310) (33) := ri_of (by decide +kernel) rfl
theorem j0_33 : ri (rt_P sc fm) 0 33 (.aload_n 0) (34) := ri_of (by decide +kernel) rfl
theorem j0_34 : ri (rt_P sc fm) 0 34 (.iload 4) (36) := ri_of (by decide +kernel) rfl
theorem j0_36 : ri (rt_P sc fm) 0 36 (.iaload) (37) := ri_of (by decide +kernel) rfl
theorem j0_37 : ri (rt_P sc fm) 0 37 (.bipush 63) (39) := ri_of (by decide +kernel) rfl
theorem j0_39 : ri (rt_P sc fm) 0 39 (.iand) (40) := ri_of (by decide +kernel) rfl
theorem j0_40 : ri (rt_P sc fm) 0 40 (.tableswitch 1294 0 32 #[148, 221, 246, 271, 315, 340, 353, 390, 451, 500, 525, 550, 587, 636, 697, 734, 747, 772, 809, 834, 859, 908, 933, 958, 971, 1024, 1061, 1086, 1150, 1206, 1231, 1256, 1269]) (40 + rx_len (.tableswitch 1294 0 32 #[148, 221, 246, 271, 315, 340, 353, 390, 451, 500, 525, 550, 587, 636, 697, 734, 747, 772, 809, 834, 859, 908, 933, 958, 971, 1024, 1061, 1086, 1150, 1206, 1231, 1256, 1269])) := ri_of (by decide +kernel) rfl
theorem j0_188 : ri (rt_P sc fm) 0 188 (.aload_n 1) (189) := ri_of (by decide +kernel) rfl
theorem j0_189 : ri (rt_P sc fm) 0 189 (.aload_n 0) (190) := ri_of (by decide +kernel) rfl
theorem j0_190 : ri (rt_P sc fm) 0 190 (.iload 4) (192) := ri_of (by decide +kernel) rfl
theorem j0_192 : ri (rt_P sc fm) 0 192 (.iconst 1) (193) := ri_of (by decide +kernel) rfl
theorem j0_193 : ri (rt_P sc fm) 0 193 (.iadd) (194) := ri_of (by decide +kernel) rfl
theorem j0_194 : ri (rt_P sc fm) 0 194 (.iaload) (195) := ri_of (by decide +kernel) rfl
theorem j0_195 : ri (rt_P sc fm) 0 195 (.aload_n 0) (196) := ri_of (by decide +kernel) rfl
theorem j0_196 : ri (rt_P sc fm) 0 196 (.iload 4) (198) := ri_of (by decide +kernel) rfl
theorem j0_198 : ri (rt_P sc fm) 0 198 (.iconst 2) (199) := ri_of (by decide +kernel) rfl
theorem j0_199 : ri (rt_P sc fm) 0 199 (.iadd) (200) := ri_of (by decide +kernel) rfl
theorem j0_200 : ri (rt_P sc fm) 0 200 (.iaload) (201) := ri_of (by decide +kernel) rfl
theorem j0_201 : ri (rt_P sc fm) 0 201 (.aload_n 0) (202) := ri_of (by decide +kernel) rfl
theorem j0_202 : ri (rt_P sc fm) 0 202 (.iload 4) (204) := ri_of (by decide +kernel) rfl
theorem j0_204 : ri (rt_P sc fm) 0 204 (.iconst 3) (205) := ri_of (by decide +kernel) rfl
theorem j0_205 : ri (rt_P sc fm) 0 205 (.iadd) (206) := ri_of (by decide +kernel) rfl
theorem j0_206 : ri (rt_P sc fm) 0 206 (.iaload) (207) := ri_of (by decide +kernel) rfl
theorem j0_207 : ri (rt_P sc fm) 0 207 (.aload_n 0) (208) := ri_of (by decide +kernel) rfl
theorem j0_208 : ri (rt_P sc fm) 0 208 (.iload 4) (210) := ri_of (by decide +kernel) rfl
theorem j0_210 : ri (rt_P sc fm) 0 210 (.iconst 4) (211) := ri_of (by decide +kernel) rfl
theorem j0_211 : ri (rt_P sc fm) 0 211 (.iadd) (212) := ri_of (by decide +kernel) rfl
theorem j0_212 : ri (rt_P sc fm) 0 212 (.iaload) (213) := ri_of (by decide +kernel) rfl
theorem j0_213 : ri (rt_P sc fm) 0 213 (.aload_n 0) (214) := ri_of (by decide +kernel) rfl
theorem j0_214 : ri (rt_P sc fm) 0 214 (.iload 4) (216) := ri_of (by decide +kernel) rfl
theorem j0_216 : ri (rt_P sc fm) 0 216 (.iconst 5) (217) := ri_of (by decide +kernel) rfl
theorem j0_217 : ri (rt_P sc fm) 0 217 (.iadd) (218) := ri_of (by decide +kernel) rfl
theorem j0_218 : ri (rt_P sc fm) 0 218 (.iaload) (219) := ri_of (by decide +kernel) rfl
theorem j0_219 : ri (rt_P sc fm) 0 219 (.invokevirtual 31) (222) := ri_of (by decide +kernel) rfl
theorem j0_222 : ri (rt_P sc fm) 0 222 (.aload_n 2) (223) := ri_of (by decide +kernel) rfl
theorem j0_223 : ri (rt_P sc fm) 0 223 (.aload_n 0) (224) := ri_of (by decide +kernel) rfl
theorem j0_224 : ri (rt_P sc fm) 0 224 (.iload 4) (226) := ri_of (by decide +kernel) rfl
theorem j0_226 : ri (rt_P sc fm) 0 226 (.iconst 1) (227) := ri_of (by decide +kernel) rfl
theorem j0_227 : ri (rt_P sc fm) 0 227 (.iadd) (228) := ri_of (by decide +kernel) rfl
theorem j0_228 : ri (rt_P sc fm) 0 228 (.iaload) (229) := ri_of (by decide +kernel) rfl
theorem j0_229 : ri (rt_P sc fm) 0 229 (.aload_n 0) (230) := ri_of (by decide +kernel) rfl
theorem j0_230 : ri (rt_P sc fm) 0 230 (.iload 4) (232) := ri_of (by decide +kernel) rfl
theorem j0_232 : ri (rt_P sc fm) 0 232 (.iconst 2) (233) := ri_of (by decide +kernel) rfl
theorem j0_233 : ri (rt_P sc fm) 0 233 (.iadd) (234) := ri_of (by decide +kernel) rfl
theorem j0_234 : ri (rt_P sc fm) 0 234 (.iaload) (235) := ri_of (by decide +kernel) rfl
theorem j0_235 : ri (rt_P sc fm) 0 235 (.aload_n 0) (236) := ri_of (by decide +kernel) rfl
theorem j0_236 : ri (rt_P sc fm) 0 236 (.iload 4) (238) := ri_of (by decide +kernel) rfl
theorem j0_238 : ri (rt_P sc fm) 0 238 (.iconst 3) (239) := ri_of (by decide +kernel) rfl
theorem j0_239 : ri (rt_P sc fm) 0 239 (.iadd) (240) := ri_of (by decide +kernel) rfl
theorem j0_240 : ri (rt_P sc fm) 0 240 (.iaload) (241) := ri_of (by decide +kernel) rfl
theorem j0_241 : ri (rt_P sc fm) 0 241 (.aload_n 0) (242) := ri_of (by decide +kernel) rfl
theorem j0_242 : ri (rt_P sc fm) 0 242 (.iload 4) (244) := ri_of (by decide +kernel) rfl
theorem j0_244 : ri (rt_P sc fm) 0 244 (.iconst 4) (245) := ri_of (by decide +kernel) rfl
theorem j0_245 : ri (rt_P sc fm) 0 245 (.iadd) (246) := ri_of (by decide +kernel) rfl
theorem j0_246 : ri (rt_P sc fm) 0 246 (.iaload) (247) := ri_of (by decide +kernel) rfl
theorem j0_247 : ri (rt_P sc fm) 0 247 (.aload_n 0) (248) := ri_of (by decide +kernel) rfl
theorem j0_248 : ri (rt_P sc fm) 0 248 (.iload 4) (250) := ri_of (by decide +kernel) rfl
theorem j0_250 : ri (rt_P sc fm) 0 250 (.iconst 5) (251) := ri_of (by decide +kernel) rfl
theorem j0_251 : ri (rt_P sc fm) 0 251 (.iadd) (252) := ri_of (by decide +kernel) rfl
theorem j0_252 : ri (rt_P sc fm) 0 252 (.iaload) (253) := ri_of (by decide +kernel) rfl
theorem j0_253 : ri (rt_P sc fm) 0 253 (.invokevirtual 35) (256) := ri_of (by decide +kernel) rfl
theorem j0_256 : ri (rt_P sc fm) 0 256 (.if_icmp .eq 1078) (259) := ri_of (by decide +kernel) rfl
theorem j0_261 : ri (rt_P sc fm) 0 261 (.aload_n 1) (262) := ri_of (by decide +kernel) rfl
theorem j0_262 : ri (rt_P sc fm) 0 262 (.aload_n 0) (263) := ri_of (by decide +kernel) rfl
theorem j0_263 : ri (rt_P sc fm) 0 263 (.iload 4) (265) := ri_of (by decide +kernel) rfl
theorem j0_265 : ri (rt_P sc fm) 0 265 (.iconst 1) (266) := ri_of (by decide +kernel) rfl
theorem j0_266 : ri (rt_P sc fm) 0 266 (.iadd) (267) := ri_of (by decide +kernel) rfl
theorem j0_267 : ri (rt_P sc fm) 0 267 (.iaload) (268) := ri_of (by decide +kernel) rfl
theorem j0_268 : ri (rt_P sc fm) 0 268 (.invokevirtual 36) (271) := ri_of (by decide +kernel) rfl
theorem j0_271 : ri (rt_P sc fm) 0 271 (.aload_n 2) (272) := ri_of (by decide +kernel) rfl
theorem j0_272 : ri (rt_P sc fm) 0 272 (.aload_n 0) (273) := ri_of (by decide +kernel) rfl
theorem j0_273 : ri (rt_P sc fm) 0 273 (.iload 4) (275) := ri_of (by decide +kernel) rfl
theorem j0_275 : ri (rt_P sc fm) 0 275 (.iconst 1) (276) := ri_of (by decide +kernel) rfl
theorem j0_276 : ri (rt_P sc fm) 0 276 (.iadd) (277) := ri_of (by decide +kernel) rfl
theorem j0_277 : ri (rt_P sc fm) 0 277 (.iaload) (278) := ri_of (by decide +kernel) rfl
theorem j0_278 : ri (rt_P sc fm) 0 278 (.invokevirtual 39) (281) := ri_of (by decide +kernel) rfl
theorem j0_281 : ri (rt_P sc fm) 0 281 (.if_icmp .eq 1053) (284) := ri_of (by decide +kernel) rfl
theorem j0_286 : ri (rt_P sc fm) 0 286 (.aload_n 1) (287) := ri_of (by decide +kernel) rfl
theorem j0_287 : ri (rt_P sc fm) 0 287 (.aload_n 0) (288) := ri_of (by decide +kernel) rfl
theorem j0_288 : ri (rt_P sc fm) 0 288 (.iload 4) (290) := ri_of (by decide +kernel) rfl
theorem j0_290 : ri (rt_P sc fm) 0 290 (.iconst 1) (291) := ri_of (by decide +kernel) rfl
theorem j0_291 : ri (rt_P sc fm) 0 291 (.iadd) (292) := ri_of (by decide +kernel) rfl
theorem j0_292 : ri (rt_P sc fm) 0 292 (.iaload) (293) := ri_of (by decide +kernel) rfl
theorem j0_293 : ri (rt_P sc fm) 0 293 (.invokevirtual 40) (296) := ri_of (by decide +kernel) rfl
theorem j0_296 : ri (rt_P sc fm) 0 296 (.aload_n 2) (297) := ri_of (by decide +kernel) rfl
theorem j0_297 : ri (rt_P sc fm) 0 297 (.aload_n 0) (298) := ri_of (by decide +kernel) rfl
theorem j0_298 : ri (rt_P sc fm) 0 298 (.iload 4) (300) := ri_of (by decide +kernel) rfl
theorem j0_300 : ri (rt_P sc fm) 0 300 (.iconst 1) (301) := ri_of (by decide +kernel) rfl
theorem j0_301 : ri (rt_P sc fm) 0 301 (.iadd) (302) := ri_of (by decide +kernel) rfl
theorem j0_302 : ri (rt_P sc fm) 0 302 (.iaload) (303) := ri_of (by decide +kernel) rfl
theorem j0_303 : ri (rt_P sc fm) 0 303 (.invokevirtual 43) (306) := ri_of (by decide +kernel) rfl
theorem j0_306 : ri (rt_P sc fm) 0 306 (.if_icmp .eq 1028) (309) := ri_of (by decide +kernel) rfl
theorem j0_311 : ri (rt_P sc fm) 0 311 (.aload_n 1) (312) := ri_of (by decide +kernel) rfl
theorem j0_312 : ri (rt_P sc fm) 0 312 (.aload_n 3) (313) := ri_of (by decide +kernel) rfl
theorem j0_313 : ri (rt_P sc fm) 0 313 (.invokestatic 44) (316) := ri_of (by decide +kernel) rfl
theorem j0_316 : ri (rt_P sc fm) 0 316 (.istore 5) (318) := ri_of (by decide +kernel) rfl
theorem j0_318 : ri (rt_P sc fm) 0 318 (.aload_n 2) (319) := ri_of (by decide +kernel) rfl
theorem j0_319 : ri (rt_P sc fm) 0 319 (.invokevirtual 49) (322) := ri_of (by decide +kernel) rfl
theorem j0_322 : ri (rt_P sc fm) 0 322 (.istore 6) (324) := ri_of (by decide +kernel) rfl
theorem j0_324 : ri (rt_P sc fm) 0 324 (.aload_n 2) (325) := ri_of (by decide +kernel) rfl
theorem j0_325 : ri (rt_P sc fm) 0 325 (.invokevirtual 50) (328) := ri_of (by decide +kernel) rfl
theorem j0_328 : ri (rt_P sc fm) 0 328 (.iload 5) (330) := ri_of (by decide +kernel) rfl
theorem j0_330 : ri (rt_P sc fm) 0 330 (.if_icmp .eq 5) (333) := ri_of (by decide +kernel) rfl
theorem j0_335 : ri (rt_P sc fm) 0 335 (.iload 5) (337) := ri_of (by decide +kernel) rfl
theorem j0_337 : ri (rt_P sc fm) 0 337 (.ifCond .ne 15) (340) := ri_of (by decide +kernel) rfl
theorem j0_340 : ri (rt_P sc fm) 0 340 (.aload_n 3) (341) := ri_of (by decide +kernel) rfl
theorem j0_341 : ri (rt_P sc fm) 0 341 (.iconst 0) (342) := ri_of (by decide +kernel) rfl
theorem j0_342 : ri (rt_P sc fm) 0 342 (.laload) (343) := ri_of (by decide +kernel) rfl
theorem j0_343 : ri (rt_P sc fm) 0 343 (.iload 6) (345) := ri_of (by decide +kernel) rfl
theorem j0_345 : ri (rt_P sc fm) 0 345 (.i2l) (346) := ri_of (by decide +kernel) rfl
theorem j0_346 : ri (rt_P sc fm) 0 346 (.lcmp) (347) := ri_of (by decide +kernel) rfl
theorem j0_347 : ri (rt_P sc fm) 0 347 (.ifCond .eq 5) (350) := ri_of (by decide +kernel) rfl
theorem j0_352 : ri (rt_P sc fm) 0 352 (.goto 982) (355) := ri_of (by decide +kernel) rfl
theorem j0_355 : ri (rt_P sc fm) 0 355 (.aload_n 1) (356) := ri_of (by decide +kernel) rfl
theorem j0_356 : ri (rt_P sc fm) 0 356 (.aload_n 0) (357) := ri_of (by decide +kernel) rfl
theorem j0_357 : ri (rt_P sc fm) 0 357 (.iload 4) (359) := ri_of (by decide +kernel) rfl
theorem j0_359 : ri (rt_P sc fm) 0 359 (.iconst 1) (360) := ri_of (by decide +kernel) rfl
theorem j0_360 : ri (rt_P sc fm) 0 360 (.iadd) (361) := ri_of (by decide +kernel) rfl
theorem j0_361 : ri (rt_P sc fm) 0 361 (.iaload) (362) := ri_of (by decide +kernel) rfl
theorem j0_362 : ri (rt_P sc fm) 0 362 (.invokevirtual 53) (365) := ri_of (by decide +kernel) rfl
theorem j0_365 : ri (rt_P sc fm) 0 365 (.aload_n 2) (366) := ri_of (by decide +kernel) rfl
theorem j0_366 : ri (rt_P sc fm) 0 366 (.aload_n 0) (367) := ri_of (by decide +kernel) rfl
theorem j0_367 : ri (rt_P sc fm) 0 367 (.iload 4) (369) := ri_of (by decide +kernel) rfl
theorem j0_369 : ri (rt_P sc fm) 0 369 (.iconst 1) (370) := ri_of (by decide +kernel) rfl
theorem j0_370 : ri (rt_P sc fm) 0 370 (.iadd) (371) := ri_of (by decide +kernel) rfl
theorem j0_371 : ri (rt_P sc fm) 0 371 (.iaload) (372) := ri_of (by decide +kernel) rfl
theorem j0_372 : ri (rt_P sc fm) 0 372 (.invokevirtual 56) (375) := ri_of (by decide +kernel) rfl
theorem j0_375 : ri (rt_P sc fm) 0 375 (.if_icmp .eq 959) (378) := ri_of (by decide +kernel) rfl
theorem j0_380 : ri (rt_P sc fm) 0 380 (.aload_n 1) (381) := ri_of (by decide +kernel) rfl
theorem j0_381 : ri (rt_P sc fm) 0 381 (.invokevirtual 57) (384) := ri_of (by decide +kernel) rfl
theorem j0_384 : ri (rt_P sc fm) 0 384 (.aload_n 2) (385) := ri_of (by decide +kernel) rfl
theorem j0_385 : ri (rt_P sc fm) 0 385 (.invokevirtual 60) (388) := ri_of (by decide +kernel) rfl
theorem j0_388 : ri (rt_P sc fm) 0 388 (.if_icmp .eq 946) (391) := ri_of (by decide +kernel) rfl
theorem j0_393 : ri (rt_P sc fm) 0 393 (.aload_n 1) (394) := ri_of (by decide +kernel) rfl
theorem j0_394 : ri (rt_P sc fm) 0 394 (.aload_n 0) (395) := ri_of (by decide +kernel) rfl
theorem j0_395 : ri (rt_P sc fm) 0 395 (.iload 4) (397) := ri_of (by decide +kernel) rfl
theorem j0_397 : ri (rt_P sc fm) 0 397 (.iconst 1) (398) := ri_of (by decide +kernel) rfl
theorem j0_398 : ri (rt_P sc fm) 0 398 (.iadd) (399) := ri_of (by decide +kernel) rfl
theorem j0_399 : ri (rt_P sc fm) 0 399 (.iaload) (400) := ri_of (by decide +kernel) rfl
theorem j0_400 : ri (rt_P sc fm) 0 400 (.aload_n 0) (401) := ri_of (by decide +kernel) rfl
theorem j0_401 : ri (rt_P sc fm) 0 401 (.iload 4) (403) := ri_of (by decide +kernel) rfl
theorem j0_403 : ri (rt_P sc fm) 0 403 (.iconst 2) (404) := ri_of (by decide +kernel) rfl
theorem j0_404 : ri (rt_P sc fm) 0 404 (.iadd) (405) := ri_of (by decide +kernel) rfl
theorem j0_405 : ri (rt_P sc fm) 0 405 (.iaload) (406) := ri_of (by decide +kernel) rfl
theorem j0_406 : ri (rt_P sc fm) 0 406 (.invokevirtual 61) (409) := ri_of (by decide +kernel) rfl
theorem j0_409 : ri (rt_P sc fm) 0 409 (.aload_n 2) (410) := ri_of (by decide +kernel) rfl
theorem j0_410 : ri (rt_P sc fm) 0 410 (.aload_n 0) (411) := ri_of (by decide +kernel) rfl
theorem j0_411 : ri (rt_P sc fm) 0 411 (.iload 4) (413) := ri_of (by decide +kernel) rfl
theorem j0_413 : ri (rt_P sc fm) 0 413 (.iconst 1) (414) := ri_of (by decide +kernel) rfl
theorem j0_414 : ri (rt_P sc fm) 0 414 (.iadd) (415) := ri_of (by decide +kernel) rfl
theorem j0_415 : ri (rt_P sc fm) 0 415 (.iaload) (416) := ri_of (by decide +kernel) rfl
theorem j0_416 : ri (rt_P sc fm) 0 416 (.aload_n 0) (417) := ri_of (by decide +kernel) rfl
theorem j0_417 : ri (rt_P sc fm) 0 417 (.iload 4) (419) := ri_of (by decide +kernel) rfl
theorem j0_419 : ri (rt_P sc fm) 0 419 (.iconst 2) (420) := ri_of (by decide +kernel) rfl
theorem j0_420 : ri (rt_P sc fm) 0 420 (.iadd) (421) := ri_of (by decide +kernel) rfl
theorem j0_421 : ri (rt_P sc fm) 0 421 (.iaload) (422) := ri_of (by decide +kernel) rfl
theorem j0_422 : ri (rt_P sc fm) 0 422 (.invokevirtual 65) (425) := ri_of (by decide +kernel) rfl
theorem j0_425 : ri (rt_P sc fm) 0 425 (.if_icmp .eq 909) (428) := ri_of (by decide +kernel) rfl
theorem j0_430 : ri (rt_P sc fm) 0 430 (.aload_n 1) (431) := ri_of (by decide +kernel) rfl
theorem j0_431 : ri (rt_P sc fm) 0 431 (.aload_n 0) (432) := ri_of (by decide +kernel) rfl
theorem j0_432 : ri (rt_P sc fm) 0 432 (.iload 4) (434) := ri_of (by decide +kernel) rfl
theorem j0_434 : ri (rt_P sc fm) 0 434 (.iconst 1) (435) := ri_of (by decide +kernel) rfl
theorem j0_435 : ri (rt_P sc fm) 0 435 (.iadd) (436) := ri_of (by decide +kernel) rfl
theorem j0_436 : ri (rt_P sc fm) 0 436 (.iaload) (437) := ri_of (by decide +kernel) rfl
theorem j0_437 : ri (rt_P sc fm) 0 437 (.aload_n 0) (438) := ri_of (by decide +kernel) rfl
theorem j0_438 : ri (rt_P sc fm) 0 438 (.iload 4) (440) := ri_of (by decide +kernel) rfl
theorem j0_440 : ri (rt_P sc fm) 0 440 (.iconst 2) (441) := ri_of (by decide +kernel) rfl
theorem j0_441 : ri (rt_P sc fm) 0 441 (.iadd) (442) := ri_of (by decide +kernel) rfl
theorem j0_442 : ri (rt_P sc fm) 0 442 (.iaload) (443) := ri_of (by decide +kernel) rfl
theorem j0_443 : ri (rt_P sc fm) 0 443 (.aload_n 0) (444) := ri_of (by decide +kernel) rfl
theorem j0_444 : ri (rt_P sc fm) 0 444 (.iload 4) (446) := ri_of (by decide +kernel) rfl
theorem j0_446 : ri (rt_P sc fm) 0 446 (.iconst 3) (447) := ri_of (by decide +kernel) rfl
theorem j0_447 : ri (rt_P sc fm) 0 447 (.iadd) (448) := ri_of (by decide +kernel) rfl
theorem j0_448 : ri (rt_P sc fm) 0 448 (.iaload) (449) := ri_of (by decide +kernel) rfl
theorem j0_449 : ri (rt_P sc fm) 0 449 (.aload_n 0) (450) := ri_of (by decide +kernel) rfl
theorem j0_450 : ri (rt_P sc fm) 0 450 (.iload 4) (452) := ri_of (by decide +kernel) rfl
theorem j0_452 : ri (rt_P sc fm) 0 452 (.iconst 4) (453) := ri_of (by decide +kernel) rfl
theorem j0_453 : ri (rt_P sc fm) 0 453 (.iadd) (454) := ri_of (by decide +kernel) rfl
theorem j0_454 : ri (rt_P sc fm) 0 454 (.iaload) (455) := ri_of (by decide +kernel) rfl
theorem j0_455 : ri (rt_P sc fm) 0 455 (.invokevirtual 66) (458) := ri_of (by decide +kernel) rfl
theorem j0_458 : ri (rt_P sc fm) 0 458 (.aload_n 2) (459) := ri_of (by decide +kernel) rfl
theorem j0_459 : ri (rt_P sc fm) 0 459 (.aload_n 0) (460) := ri_of (by decide +kernel) rfl
theorem j0_460 : ri (rt_P sc fm) 0 460 (.iload 4) (462) := ri_of (by decide +kernel) rfl
theorem j0_462 : ri (rt_P sc fm) 0 462 (.iconst 1) (463) := ri_of (by decide +kernel) rfl
theorem j0_463 : ri (rt_P sc fm) 0 463 (.iadd) (464) := ri_of (by decide +kernel) rfl
theorem j0_464 : ri (rt_P sc fm) 0 464 (.iaload) (465) := ri_of (by decide +kernel) rfl
theorem j0_465 : ri (rt_P sc fm) 0 465 (.aload_n 0) (466) := ri_of (by decide +kernel) rfl
theorem j0_466 : ri (rt_P sc fm) 0 466 (.iload 4) (468) := ri_of (by decide +kernel) rfl
theorem j0_468 : ri (rt_P sc fm) 0 468 (.iconst 2) (469) := ri_of (by decide +kernel) rfl
theorem j0_469 : ri (rt_P sc fm) 0 469 (.iadd) (470) := ri_of (by decide +kernel) rfl
theorem j0_470 : ri (rt_P sc fm) 0 470 (.iaload) (471) := ri_of (by decide +kernel) rfl
theorem j0_471 : ri (rt_P sc fm) 0 471 (.aload_n 0) (472) := ri_of (by decide +kernel) rfl
theorem j0_472 : ri (rt_P sc fm) 0 472 (.iload 4) (474) := ri_of (by decide +kernel) rfl
theorem j0_474 : ri (rt_P sc fm) 0 474 (.iconst 3) (475) := ri_of (by decide +kernel) rfl
theorem j0_475 : ri (rt_P sc fm) 0 475 (.iadd) (476) := ri_of (by decide +kernel) rfl
theorem j0_476 : ri (rt_P sc fm) 0 476 (.iaload) (477) := ri_of (by decide +kernel) rfl
theorem j0_477 : ri (rt_P sc fm) 0 477 (.aload_n 0) (478) := ri_of (by decide +kernel) rfl
theorem j0_478 : ri (rt_P sc fm) 0 478 (.iload 4) (480) := ri_of (by decide +kernel) rfl
theorem j0_480 : ri (rt_P sc fm) 0 480 (.iconst 4) (481) := ri_of (by decide +kernel) rfl
theorem j0_481 : ri (rt_P sc fm) 0 481 (.iadd) (482) := ri_of (by decide +kernel) rfl
theorem j0_482 : ri (rt_P sc fm) 0 482 (.iaload) (483) := ri_of (by decide +kernel) rfl
theorem j0_483 : ri (rt_P sc fm) 0 483 (.invokevirtual 70) (486) := ri_of (by decide +kernel) rfl
theorem j0_486 : ri (rt_P sc fm) 0 486 (.if_icmp .eq 848) (489) := ri_of (by decide +kernel) rfl
theorem j0_491 : ri (rt_P sc fm) 0 491 (.aload_n 1) (492) := ri_of (by decide +kernel) rfl
theorem j0_492 : ri (rt_P sc fm) 0 492 (.aload_n 0) (493) := ri_of (by decide +kernel) rfl
theorem j0_493 : ri (rt_P sc fm) 0 493 (.iload 4) (495) := ri_of (by decide +kernel) rfl
theorem j0_495 : ri (rt_P sc fm) 0 495 (.iconst 1) (496) := ri_of (by decide +kernel) rfl
theorem j0_496 : ri (rt_P sc fm) 0 496 (.iadd) (497) := ri_of (by decide +kernel) rfl
theorem j0_497 : ri (rt_P sc fm) 0 497 (.iaload) (498) := ri_of (by decide +kernel) rfl
theorem j0_498 : ri (rt_P sc fm) 0 498 (.aload_n 0) (499) := ri_of (by decide +kernel) rfl
theorem j0_499 : ri (rt_P sc fm) 0 499 (.iload 4) (501) := ri_of (by decide +kernel) rfl
theorem j0_501 : ri (rt_P sc fm) 0 501 (.iconst 2) (502) := ri_of (by decide +kernel) rfl
theorem j0_502 : ri (rt_P sc fm) 0 502 (.iadd) (503) := ri_of (by decide +kernel) rfl
theorem j0_503 : ri (rt_P sc fm) 0 503 (.iaload) (504) := ri_of (by decide +kernel) rfl
theorem j0_504 : ri (rt_P sc fm) 0 504 (.aload_n 0) (505) := ri_of (by decide +kernel) rfl
theorem j0_505 : ri (rt_P sc fm) 0 505 (.iload 4) (507) := ri_of (by decide +kernel) rfl
theorem j0_507 : ri (rt_P sc fm) 0 507 (.iconst 3) (508) := ri_of (by decide +kernel) rfl
theorem j0_508 : ri (rt_P sc fm) 0 508 (.iadd) (509) := ri_of (by decide +kernel) rfl
theorem j0_509 : ri (rt_P sc fm) 0 509 (.iaload) (510) := ri_of (by decide +kernel) rfl
theorem j0_510 : ri (rt_P sc fm) 0 510 (.invokevirtual 71) (513) := ri_of (by decide +kernel) rfl
theorem j0_513 : ri (rt_P sc fm) 0 513 (.aload_n 2) (514) := ri_of (by decide +kernel) rfl
theorem j0_514 : ri (rt_P sc fm) 0 514 (.aload_n 0) (515) := ri_of (by decide +kernel) rfl
theorem j0_515 : ri (rt_P sc fm) 0 515 (.iload 4) (517) := ri_of (by decide +kernel) rfl
theorem j0_517 : ri (rt_P sc fm) 0 517 (.iconst 1) (518) := ri_of (by decide +kernel) rfl
theorem j0_518 : ri (rt_P sc fm) 0 518 (.iadd) (519) := ri_of (by decide +kernel) rfl
theorem j0_519 : ri (rt_P sc fm) 0 519 (.iaload) (520) := ri_of (by decide +kernel) rfl
theorem j0_520 : ri (rt_P sc fm) 0 520 (.aload_n 0) (521) := ri_of (by decide +kernel) rfl
theorem j0_521 : ri (rt_P sc fm) 0 521 (.iload 4) (523) := ri_of (by decide +kernel) rfl
theorem j0_523 : ri (rt_P sc fm) 0 523 (.iconst 2) (524) := ri_of (by decide +kernel) rfl
theorem j0_524 : ri (rt_P sc fm) 0 524 (.iadd) (525) := ri_of (by decide +kernel) rfl
theorem j0_525 : ri (rt_P sc fm) 0 525 (.iaload) (526) := ri_of (by decide +kernel) rfl
theorem j0_526 : ri (rt_P sc fm) 0 526 (.aload_n 0) (527) := ri_of (by decide +kernel) rfl
theorem j0_527 : ri (rt_P sc fm) 0 527 (.iload 4) (529) := ri_of (by decide +kernel) rfl
theorem j0_529 : ri (rt_P sc fm) 0 529 (.iconst 3) (530) := ri_of (by decide +kernel) rfl
theorem j0_530 : ri (rt_P sc fm) 0 530 (.iadd) (531) := ri_of (by decide +kernel) rfl
theorem j0_531 : ri (rt_P sc fm) 0 531 (.iaload) (532) := ri_of (by decide +kernel) rfl
theorem j0_532 : ri (rt_P sc fm) 0 532 (.invokevirtual 75) (535) := ri_of (by decide +kernel) rfl
theorem j0_535 : ri (rt_P sc fm) 0 535 (.if_icmp .eq 799) (538) := ri_of (by decide +kernel) rfl
theorem j0_540 : ri (rt_P sc fm) 0 540 (.aload_n 1) (541) := ri_of (by decide +kernel) rfl
theorem j0_541 : ri (rt_P sc fm) 0 541 (.aload_n 0) (542) := ri_of (by decide +kernel) rfl
theorem j0_542 : ri (rt_P sc fm) 0 542 (.iload 4) (544) := ri_of (by decide +kernel) rfl
theorem j0_544 : ri (rt_P sc fm) 0 544 (.iconst 1) (545) := ri_of (by decide +kernel) rfl
theorem j0_545 : ri (rt_P sc fm) 0 545 (.iadd) (546) := ri_of (by decide +kernel) rfl
theorem j0_546 : ri (rt_P sc fm) 0 546 (.iaload) (547) := ri_of (by decide +kernel) rfl
theorem j0_547 : ri (rt_P sc fm) 0 547 (.invokevirtual 76) (550) := ri_of (by decide +kernel) rfl
theorem j0_550 : ri (rt_P sc fm) 0 550 (.aload_n 2) (551) := ri_of (by decide +kernel) rfl
theorem j0_551 : ri (rt_P sc fm) 0 551 (.aload_n 0) (552) := ri_of (by decide +kernel) rfl
theorem j0_552 : ri (rt_P sc fm) 0 552 (.iload 4) (554) := ri_of (by decide +kernel) rfl
theorem j0_554 : ri (rt_P sc fm) 0 554 (.iconst 1) (555) := ri_of (by decide +kernel) rfl
theorem j0_555 : ri (rt_P sc fm) 0 555 (.iadd) (556) := ri_of (by decide +kernel) rfl
theorem j0_556 : ri (rt_P sc fm) 0 556 (.iaload) (557) := ri_of (by decide +kernel) rfl
theorem j0_557 : ri (rt_P sc fm) 0 557 (.invokevirtual 79) (560) := ri_of (by decide +kernel) rfl
theorem j0_560 : ri (rt_P sc fm) 0 560 (.if_icmp .eq 774) (563) := ri_of (by decide +kernel) rfl
theorem j0_565 : ri (rt_P sc fm) 0 565 (.aload_n 1) (566) := ri_of (by decide +kernel) rfl
theorem j0_566 : ri (rt_P sc fm) 0 566 (.aload_n 0) (567) := ri_of (by decide +kernel) rfl
theorem j0_567 : ri (rt_P sc fm) 0 567 (.iload 4) (569) := ri_of (by decide +kernel) rfl
theorem j0_569 : ri (rt_P sc fm) 0 569 (.iconst 1) (570) := ri_of (by decide +kernel) rfl
theorem j0_570 : ri (rt_P sc fm) 0 570 (.iadd) (571) := ri_of (by decide +kernel) rfl
theorem j0_571 : ri (rt_P sc fm) 0 571 (.iaload) (572) := ri_of (by decide +kernel) rfl
theorem j0_572 : ri (rt_P sc fm) 0 572 (.invokevirtual 80) (575) := ri_of (by decide +kernel) rfl
theorem j0_575 : ri (rt_P sc fm) 0 575 (.aload_n 2) (576) := ri_of (by decide +kernel) rfl
theorem j0_576 : ri (rt_P sc fm) 0 576 (.aload_n 0) (577) := ri_of (by decide +kernel) rfl
theorem j0_577 : ri (rt_P sc fm) 0 577 (.iload 4) (579) := ri_of (by decide +kernel) rfl
theorem j0_579 : ri (rt_P sc fm) 0 579 (.iconst 1) (580) := ri_of (by decide +kernel) rfl
theorem j0_580 : ri (rt_P sc fm) 0 580 (.iadd) (581) := ri_of (by decide +kernel) rfl
theorem j0_581 : ri (rt_P sc fm) 0 581 (.iaload) (582) := ri_of (by decide +kernel) rfl
theorem j0_582 : ri (rt_P sc fm) 0 582 (.invokevirtual 83) (585) := ri_of (by decide +kernel) rfl
theorem j0_585 : ri (rt_P sc fm) 0 585 (.if_icmp .eq 749) (588) := ri_of (by decide +kernel) rfl
theorem j0_590 : ri (rt_P sc fm) 0 590 (.aload_n 1) (591) := ri_of (by decide +kernel) rfl
theorem j0_591 : ri (rt_P sc fm) 0 591 (.aload_n 0) (592) := ri_of (by decide +kernel) rfl
theorem j0_592 : ri (rt_P sc fm) 0 592 (.iload 4) (594) := ri_of (by decide +kernel) rfl
theorem j0_594 : ri (rt_P sc fm) 0 594 (.iconst 1) (595) := ri_of (by decide +kernel) rfl
theorem j0_595 : ri (rt_P sc fm) 0 595 (.iadd) (596) := ri_of (by decide +kernel) rfl
theorem j0_596 : ri (rt_P sc fm) 0 596 (.iaload) (597) := ri_of (by decide +kernel) rfl
theorem j0_597 : ri (rt_P sc fm) 0 597 (.aload_n 0) (598) := ri_of (by decide +kernel) rfl
theorem j0_598 : ri (rt_P sc fm) 0 598 (.iload 4) (600) := ri_of (by decide +kernel) rfl
theorem j0_600 : ri (rt_P sc fm) 0 600 (.iconst 2) (601) := ri_of (by decide +kernel) rfl
theorem j0_601 : ri (rt_P sc fm) 0 601 (.iadd) (602) := ri_of (by decide +kernel) rfl
theorem j0_602 : ri (rt_P sc fm) 0 602 (.iaload) (603) := ri_of (by decide +kernel) rfl
theorem j0_603 : ri (rt_P sc fm) 0 603 (.invokevirtual 84) (606) := ri_of (by decide +kernel) rfl
theorem j0_606 : ri (rt_P sc fm) 0 606 (.aload_n 2) (607) := ri_of (by decide +kernel) rfl
theorem j0_607 : ri (rt_P sc fm) 0 607 (.aload_n 0) (608) := ri_of (by decide +kernel) rfl
theorem j0_608 : ri (rt_P sc fm) 0 608 (.iload 4) (610) := ri_of (by decide +kernel) rfl
theorem j0_610 : ri (rt_P sc fm) 0 610 (.iconst 1) (611) := ri_of (by decide +kernel) rfl
theorem j0_611 : ri (rt_P sc fm) 0 611 (.iadd) (612) := ri_of (by decide +kernel) rfl
theorem j0_612 : ri (rt_P sc fm) 0 612 (.iaload) (613) := ri_of (by decide +kernel) rfl
theorem j0_613 : ri (rt_P sc fm) 0 613 (.aload_n 0) (614) := ri_of (by decide +kernel) rfl
theorem j0_614 : ri (rt_P sc fm) 0 614 (.iload 4) (616) := ri_of (by decide +kernel) rfl
theorem j0_616 : ri (rt_P sc fm) 0 616 (.iconst 2) (617) := ri_of (by decide +kernel) rfl
theorem j0_617 : ri (rt_P sc fm) 0 617 (.iadd) (618) := ri_of (by decide +kernel) rfl
theorem j0_618 : ri (rt_P sc fm) 0 618 (.iaload) (619) := ri_of (by decide +kernel) rfl
theorem j0_619 : ri (rt_P sc fm) 0 619 (.invokevirtual 87) (622) := ri_of (by decide +kernel) rfl
theorem j0_622 : ri (rt_P sc fm) 0 622 (.if_icmp .eq 712) (625) := ri_of (by decide +kernel) rfl
theorem j0_627 : ri (rt_P sc fm) 0 627 (.aload_n 1) (628) := ri_of (by decide +kernel) rfl
theorem j0_628 : ri (rt_P sc fm) 0 628 (.aload_n 0) (629) := ri_of (by decide +kernel) rfl
theorem j0_629 : ri (rt_P sc fm) 0 629 (.iload 4) (631) := ri_of (by decide +kernel) rfl
theorem j0_631 : ri (rt_P sc fm) 0 631 (.iconst 1) (632) := ri_of (by decide +kernel) rfl
theorem j0_632 : ri (rt_P sc fm) 0 632 (.iadd) (633) := ri_of (by decide +kernel) rfl
theorem j0_633 : ri (rt_P sc fm) 0 633 (.iaload) (634) := ri_of (by decide +kernel) rfl
theorem j0_634 : ri (rt_P sc fm) 0 634 (.aload_n 0) (635) := ri_of (by decide +kernel) rfl
theorem j0_635 : ri (rt_P sc fm) 0 635 (.iload 4) (637) := ri_of (by decide +kernel) rfl
theorem j0_637 : ri (rt_P sc fm) 0 637 (.iconst 2) (638) := ri_of (by decide +kernel) rfl
theorem j0_638 : ri (rt_P sc fm) 0 638 (.iadd) (639) := ri_of (by decide +kernel) rfl
theorem j0_639 : ri (rt_P sc fm) 0 639 (.iaload) (640) := ri_of (by decide +kernel) rfl
theorem j0_640 : ri (rt_P sc fm) 0 640 (.aload_n 0) (641) := ri_of (by decide +kernel) rfl
theorem j0_641 : ri (rt_P sc fm) 0 641 (.iload 4) (643) := ri_of (by decide +kernel) rfl
theorem j0_643 : ri (rt_P sc fm) 0 643 (.iconst 3) (644) := ri_of (by decide +kernel) rfl
theorem j0_644 : ri (rt_P sc fm) 0 644 (.iadd) (645) := ri_of (by decide +kernel) rfl
theorem j0_645 : ri (rt_P sc fm) 0 645 (.iaload) (646) := ri_of (by decide +kernel) rfl
theorem j0_646 : ri (rt_P sc fm) 0 646 (.invokevirtual 88) (649) := ri_of (by decide +kernel) rfl
theorem j0_649 : ri (rt_P sc fm) 0 649 (.aload_n 2) (650) := ri_of (by decide +kernel) rfl
theorem j0_650 : ri (rt_P sc fm) 0 650 (.aload_n 0) (651) := ri_of (by decide +kernel) rfl
theorem j0_651 : ri (rt_P sc fm) 0 651 (.iload 4) (653) := ri_of (by decide +kernel) rfl
theorem j0_653 : ri (rt_P sc fm) 0 653 (.iconst 1) (654) := ri_of (by decide +kernel) rfl
theorem j0_654 : ri (rt_P sc fm) 0 654 (.iadd) (655) := ri_of (by decide +kernel) rfl
theorem j0_655 : ri (rt_P sc fm) 0 655 (.iaload) (656) := ri_of (by decide +kernel) rfl
theorem j0_656 : ri (rt_P sc fm) 0 656 (.aload_n 0) (657) := ri_of (by decide +kernel) rfl
theorem j0_657 : ri (rt_P sc fm) 0 657 (.iload 4) (659) := ri_of (by decide +kernel) rfl
theorem j0_659 : ri (rt_P sc fm) 0 659 (.iconst 2) (660) := ri_of (by decide +kernel) rfl
theorem j0_660 : ri (rt_P sc fm) 0 660 (.iadd) (661) := ri_of (by decide +kernel) rfl
theorem j0_661 : ri (rt_P sc fm) 0 661 (.iaload) (662) := ri_of (by decide +kernel) rfl
theorem j0_662 : ri (rt_P sc fm) 0 662 (.aload_n 0) (663) := ri_of (by decide +kernel) rfl
theorem j0_663 : ri (rt_P sc fm) 0 663 (.iload 4) (665) := ri_of (by decide +kernel) rfl
theorem j0_665 : ri (rt_P sc fm) 0 665 (.iconst 3) (666) := ri_of (by decide +kernel) rfl
theorem j0_666 : ri (rt_P sc fm) 0 666 (.iadd) (667) := ri_of (by decide +kernel) rfl
theorem j0_667 : ri (rt_P sc fm) 0 667 (.iaload) (668) := ri_of (by decide +kernel) rfl
theorem j0_668 : ri (rt_P sc fm) 0 668 (.invokevirtual 91) (671) := ri_of (by decide +kernel) rfl
theorem j0_671 : ri (rt_P sc fm) 0 671 (.if_icmp .eq 663) (674) := ri_of (by decide +kernel) rfl
theorem j0_676 : ri (rt_P sc fm) 0 676 (.aload_n 1) (677) := ri_of (by decide +kernel) rfl
theorem j0_677 : ri (rt_P sc fm) 0 677 (.aload_n 0) (678) := ri_of (by decide +kernel) rfl
theorem j0_678 : ri (rt_P sc fm) 0 678 (.iload 4) (680) := ri_of (by decide +kernel) rfl
theorem j0_680 : ri (rt_P sc fm) 0 680 (.iconst 1) (681) := ri_of (by decide +kernel) rfl
theorem j0_681 : ri (rt_P sc fm) 0 681 (.iadd) (682) := ri_of (by decide +kernel) rfl
theorem j0_682 : ri (rt_P sc fm) 0 682 (.iaload) (683) := ri_of (by decide +kernel) rfl
theorem j0_683 : ri (rt_P sc fm) 0 683 (.aload_n 0) (684) := ri_of (by decide +kernel) rfl
theorem j0_684 : ri (rt_P sc fm) 0 684 (.iload 4) (686) := ri_of (by decide +kernel) rfl
theorem j0_686 : ri (rt_P sc fm) 0 686 (.iconst 2) (687) := ri_of (by decide +kernel) rfl
theorem j0_687 : ri (rt_P sc fm) 0 687 (.iadd) (688) := ri_of (by decide +kernel) rfl
theorem j0_688 : ri (rt_P sc fm) 0 688 (.iaload) (689) := ri_of (by decide +kernel) rfl
theorem j0_689 : ri (rt_P sc fm) 0 689 (.aload_n 0) (690) := ri_of (by decide +kernel) rfl
theorem j0_690 : ri (rt_P sc fm) 0 690 (.iload 4) (692) := ri_of (by decide +kernel) rfl
theorem j0_692 : ri (rt_P sc fm) 0 692 (.iconst 3) (693) := ri_of (by decide +kernel) rfl
theorem j0_693 : ri (rt_P sc fm) 0 693 (.iadd) (694) := ri_of (by decide +kernel) rfl
theorem j0_694 : ri (rt_P sc fm) 0 694 (.iaload) (695) := ri_of (by decide +kernel) rfl
theorem j0_695 : ri (rt_P sc fm) 0 695 (.aload_n 0) (696) := ri_of (by decide +kernel) rfl
theorem j0_696 : ri (rt_P sc fm) 0 696 (.iload 4) (698) := ri_of (by decide +kernel) rfl
theorem j0_698 : ri (rt_P sc fm) 0 698 (.iconst 4) (699) := ri_of (by decide +kernel) rfl
theorem j0_699 : ri (rt_P sc fm) 0 699 (.iadd) (700) := ri_of (by decide +kernel) rfl
theorem j0_700 : ri (rt_P sc fm) 0 700 (.iaload) (701) := ri_of (by decide +kernel) rfl
theorem j0_701 : ri (rt_P sc fm) 0 701 (.invokevirtual 92) (704) := ri_of (by decide +kernel) rfl
theorem j0_704 : ri (rt_P sc fm) 0 704 (.aload_n 2) (705) := ri_of (by decide +kernel) rfl
theorem j0_705 : ri (rt_P sc fm) 0 705 (.aload_n 0) (706) := ri_of (by decide +kernel) rfl
theorem j0_706 : ri (rt_P sc fm) 0 706 (.iload 4) (708) := ri_of (by decide +kernel) rfl
theorem j0_708 : ri (rt_P sc fm) 0 708 (.iconst 1) (709) := ri_of (by decide +kernel) rfl
theorem j0_709 : ri (rt_P sc fm) 0 709 (.iadd) (710) := ri_of (by decide +kernel) rfl
theorem j0_710 : ri (rt_P sc fm) 0 710 (.iaload) (711) := ri_of (by decide +kernel) rfl
theorem j0_711 : ri (rt_P sc fm) 0 711 (.aload_n 0) (712) := ri_of (by decide +kernel) rfl
theorem j0_712 : ri (rt_P sc fm) 0 712 (.iload 4) (714) := ri_of (by decide +kernel) rfl
theorem j0_714 : ri (rt_P sc fm) 0 714 (.iconst 2) (715) := ri_of (by decide +kernel) rfl
theorem j0_715 : ri (rt_P sc fm) 0 715 (.iadd) (716) := ri_of (by decide +kernel) rfl
theorem j0_716 : ri (rt_P sc fm) 0 716 (.iaload) (717) := ri_of (by decide +kernel) rfl
theorem j0_717 : ri (rt_P sc fm) 0 717 (.aload_n 0) (718) := ri_of (by decide +kernel) rfl
theorem j0_718 : ri (rt_P sc fm) 0 718 (.iload 4) (720) := ri_of (by decide +kernel) rfl
theorem j0_720 : ri (rt_P sc fm) 0 720 (.iconst 3) (721) := ri_of (by decide +kernel) rfl
theorem j0_721 : ri (rt_P sc fm) 0 721 (.iadd) (722) := ri_of (by decide +kernel) rfl
theorem j0_722 : ri (rt_P sc fm) 0 722 (.iaload) (723) := ri_of (by decide +kernel) rfl
theorem j0_723 : ri (rt_P sc fm) 0 723 (.aload_n 0) (724) := ri_of (by decide +kernel) rfl
theorem j0_724 : ri (rt_P sc fm) 0 724 (.iload 4) (726) := ri_of (by decide +kernel) rfl
theorem j0_726 : ri (rt_P sc fm) 0 726 (.iconst 4) (727) := ri_of (by decide +kernel) rfl
theorem j0_727 : ri (rt_P sc fm) 0 727 (.iadd) (728) := ri_of (by decide +kernel) rfl
theorem j0_728 : ri (rt_P sc fm) 0 728 (.iaload) (729) := ri_of (by decide +kernel) rfl
theorem j0_729 : ri (rt_P sc fm) 0 729 (.invokevirtual 95) (732) := ri_of (by decide +kernel) rfl
theorem j0_732 : ri (rt_P sc fm) 0 732 (.if_icmp .eq 602) (735) := ri_of (by decide +kernel) rfl
theorem j0_737 : ri (rt_P sc fm) 0 737 (.aload_n 1) (738) := ri_of (by decide +kernel) rfl
theorem j0_738 : ri (rt_P sc fm) 0 738 (.aload_n 0) (739) := ri_of (by decide +kernel) rfl
theorem j0_739 : ri (rt_P sc fm) 0 739 (.iload 4) (741) := ri_of (by decide +kernel) rfl
theorem j0_741 : ri (rt_P sc fm) 0 741 (.iconst 1) (742) := ri_of (by decide +kernel) rfl
theorem j0_742 : ri (rt_P sc fm) 0 742 (.iadd) (743) := ri_of (by decide +kernel) rfl
theorem j0_743 : ri (rt_P sc fm) 0 743 (.iaload) (744) := ri_of (by decide +kernel) rfl
theorem j0_744 : ri (rt_P sc fm) 0 744 (.aload_n 0) (745) := ri_of (by decide +kernel) rfl
theorem j0_745 : ri (rt_P sc fm) 0 745 (.iload 4) (747) := ri_of (by decide +kernel) rfl
theorem j0_747 : ri (rt_P sc fm) 0 747 (.iconst 2) (748) := ri_of (by decide +kernel) rfl
theorem j0_748 : ri (rt_P sc fm) 0 748 (.iadd) (749) := ri_of (by decide +kernel) rfl
theorem j0_749 : ri (rt_P sc fm) 0 749 (.iaload) (750) := ri_of (by decide +kernel) rfl
theorem j0_750 : ri (rt_P sc fm) 0 750 (.invokevirtual 96) (753) := ri_of (by decide +kernel) rfl
theorem j0_753 : ri (rt_P sc fm) 0 753 (.aload_n 2) (754) := ri_of (by decide +kernel) rfl
theorem j0_754 : ri (rt_P sc fm) 0 754 (.aload_n 0) (755) := ri_of (by decide +kernel) rfl
theorem j0_755 : ri (rt_P sc fm) 0 755 (.iload 4) (757) := ri_of (by decide +kernel) rfl
theorem j0_757 : ri (rt_P sc fm) 0 757 (.iconst 1) (758) := ri_of (by decide +kernel) rfl
theorem j0_758 : ri (rt_P sc fm) 0 758 (.iadd) (759) := ri_of (by decide +kernel) rfl
theorem j0_759 : ri (rt_P sc fm) 0 759 (.iaload) (760) := ri_of (by decide +kernel) rfl
theorem j0_760 : ri (rt_P sc fm) 0 760 (.aload_n 0) (761) := ri_of (by decide +kernel) rfl
theorem j0_761 : ri (rt_P sc fm) 0 761 (.iload 4) (763) := ri_of (by decide +kernel) rfl
theorem j0_763 : ri (rt_P sc fm) 0 763 (.iconst 2) (764) := ri_of (by decide +kernel) rfl
theorem j0_764 : ri (rt_P sc fm) 0 764 (.iadd) (765) := ri_of (by decide +kernel) rfl
theorem j0_765 : ri (rt_P sc fm) 0 765 (.iaload) (766) := ri_of (by decide +kernel) rfl
theorem j0_766 : ri (rt_P sc fm) 0 766 (.invokevirtual 99) (769) := ri_of (by decide +kernel) rfl
theorem j0_769 : ri (rt_P sc fm) 0 769 (.if_icmp .eq 565) (772) := ri_of (by decide +kernel) rfl
theorem j0_774 : ri (rt_P sc fm) 0 774 (.aload_n 1) (775) := ri_of (by decide +kernel) rfl
theorem j0_775 : ri (rt_P sc fm) 0 775 (.invokevirtual 100) (778) := ri_of (by decide +kernel) rfl
theorem j0_778 : ri (rt_P sc fm) 0 778 (.aload_n 2) (779) := ri_of (by decide +kernel) rfl
theorem j0_779 : ri (rt_P sc fm) 0 779 (.invokevirtual 103) (782) := ri_of (by decide +kernel) rfl
theorem j0_782 : ri (rt_P sc fm) 0 782 (.if_icmp .eq 552) (785) := ri_of (by decide +kernel) rfl
theorem j0_787 : ri (rt_P sc fm) 0 787 (.aload_n 1) (788) := ri_of (by decide +kernel) rfl
theorem j0_788 : ri (rt_P sc fm) 0 788 (.aload_n 0) (789) := ri_of (by decide +kernel) rfl
theorem j0_789 : ri (rt_P sc fm) 0 789 (.iload 4) (791) := ri_of (by decide +kernel) rfl
theorem j0_791 : ri (rt_P sc fm) 0 791 (.iconst 1) (792) := ri_of (by decide +kernel) rfl
theorem j0_792 : ri (rt_P sc fm) 0 792 (.iadd) (793) := ri_of (by decide +kernel) rfl
theorem j0_793 : ri (rt_P sc fm) 0 793 (.iaload) (794) := ri_of (by decide +kernel) rfl
theorem j0_794 : ri (rt_P sc fm) 0 794 (.invokevirtual 104) (797) := ri_of (by decide +kernel) rfl
theorem j0_797 : ri (rt_P sc fm) 0 797 (.aload_n 2) (798) := ri_of (by decide +kernel) rfl
theorem j0_798 : ri (rt_P sc fm) 0 798 (.aload_n 0) (799) := ri_of (by decide +kernel) rfl
theorem j0_799 : ri (rt_P sc fm) 0 799 (.iload 4) (801) := ri_of (by decide +kernel) rfl
theorem j0_801 : ri (rt_P sc fm) 0 801 (.iconst 1) (802) := ri_of (by decide +kernel) rfl
theorem j0_802 : ri (rt_P sc fm) 0 802 (.iadd) (803) := ri_of (by decide +kernel) rfl
theorem j0_803 : ri (rt_P sc fm) 0 803 (.iaload) (804) := ri_of (by decide +kernel) rfl
theorem j0_804 : ri (rt_P sc fm) 0 804 (.invokevirtual 107) (807) := ri_of (by decide +kernel) rfl
theorem j0_807 : ri (rt_P sc fm) 0 807 (.if_icmp .eq 527) (810) := ri_of (by decide +kernel) rfl
theorem j0_812 : ri (rt_P sc fm) 0 812 (.aload_n 1) (813) := ri_of (by decide +kernel) rfl
theorem j0_813 : ri (rt_P sc fm) 0 813 (.aload_n 0) (814) := ri_of (by decide +kernel) rfl
theorem j0_814 : ri (rt_P sc fm) 0 814 (.iload 4) (816) := ri_of (by decide +kernel) rfl
theorem j0_816 : ri (rt_P sc fm) 0 816 (.iconst 1) (817) := ri_of (by decide +kernel) rfl
theorem j0_817 : ri (rt_P sc fm) 0 817 (.iadd) (818) := ri_of (by decide +kernel) rfl
theorem j0_818 : ri (rt_P sc fm) 0 818 (.iaload) (819) := ri_of (by decide +kernel) rfl
theorem j0_819 : ri (rt_P sc fm) 0 819 (.aload_n 0) (820) := ri_of (by decide +kernel) rfl
theorem j0_820 : ri (rt_P sc fm) 0 820 (.iload 4) (822) := ri_of (by decide +kernel) rfl
theorem j0_822 : ri (rt_P sc fm) 0 822 (.iconst 2) (823) := ri_of (by decide +kernel) rfl
theorem j0_823 : ri (rt_P sc fm) 0 823 (.iadd) (824) := ri_of (by decide +kernel) rfl
theorem j0_824 : ri (rt_P sc fm) 0 824 (.iaload) (825) := ri_of (by decide +kernel) rfl
theorem j0_825 : ri (rt_P sc fm) 0 825 (.invokevirtual 108) (828) := ri_of (by decide +kernel) rfl
theorem j0_828 : ri (rt_P sc fm) 0 828 (.aload_n 2) (829) := ri_of (by decide +kernel) rfl
theorem j0_829 : ri (rt_P sc fm) 0 829 (.aload_n 0) (830) := ri_of (by decide +kernel) rfl
theorem j0_830 : ri (rt_P sc fm) 0 830 (.iload 4) (832) := ri_of (by decide +kernel) rfl
theorem j0_832 : ri (rt_P sc fm) 0 832 (.iconst 1) (833) := ri_of (by decide +kernel) rfl
theorem j0_833 : ri (rt_P sc fm) 0 833 (.iadd) (834) := ri_of (by decide +kernel) rfl
theorem j0_834 : ri (rt_P sc fm) 0 834 (.iaload) (835) := ri_of (by decide +kernel) rfl
theorem j0_835 : ri (rt_P sc fm) 0 835 (.aload_n 0) (836) := ri_of (by decide +kernel) rfl
theorem j0_836 : ri (rt_P sc fm) 0 836 (.iload 4) (838) := ri_of (by decide +kernel) rfl
theorem j0_838 : ri (rt_P sc fm) 0 838 (.iconst 2) (839) := ri_of (by decide +kernel) rfl
theorem j0_839 : ri (rt_P sc fm) 0 839 (.iadd) (840) := ri_of (by decide +kernel) rfl
theorem j0_840 : ri (rt_P sc fm) 0 840 (.iaload) (841) := ri_of (by decide +kernel) rfl
theorem j0_841 : ri (rt_P sc fm) 0 841 (.invokevirtual 111) (844) := ri_of (by decide +kernel) rfl
theorem j0_844 : ri (rt_P sc fm) 0 844 (.if_icmp .eq 490) (847) := ri_of (by decide +kernel) rfl
theorem j0_849 : ri (rt_P sc fm) 0 849 (.aload_n 1) (850) := ri_of (by decide +kernel) rfl
theorem j0_850 : ri (rt_P sc fm) 0 850 (.aload_n 0) (851) := ri_of (by decide +kernel) rfl
theorem j0_851 : ri (rt_P sc fm) 0 851 (.iload 4) (853) := ri_of (by decide +kernel) rfl
theorem j0_853 : ri (rt_P sc fm) 0 853 (.iconst 1) (854) := ri_of (by decide +kernel) rfl
theorem j0_854 : ri (rt_P sc fm) 0 854 (.iadd) (855) := ri_of (by decide +kernel) rfl
theorem j0_855 : ri (rt_P sc fm) 0 855 (.iaload) (856) := ri_of (by decide +kernel) rfl
theorem j0_856 : ri (rt_P sc fm) 0 856 (.invokevirtual 112) (859) := ri_of (by decide +kernel) rfl
theorem j0_859 : ri (rt_P sc fm) 0 859 (.aload_n 2) (860) := ri_of (by decide +kernel) rfl
theorem j0_860 : ri (rt_P sc fm) 0 860 (.aload_n 0) (861) := ri_of (by decide +kernel) rfl
theorem j0_861 : ri (rt_P sc fm) 0 861 (.iload 4) (863) := ri_of (by decide +kernel) rfl
theorem j0_863 : ri (rt_P sc fm) 0 863 (.iconst 1) (864) := ri_of (by decide +kernel) rfl
theorem j0_864 : ri (rt_P sc fm) 0 864 (.iadd) (865) := ri_of (by decide +kernel) rfl
theorem j0_865 : ri (rt_P sc fm) 0 865 (.iaload) (866) := ri_of (by decide +kernel) rfl
theorem j0_866 : ri (rt_P sc fm) 0 866 (.invokevirtual 115) (869) := ri_of (by decide +kernel) rfl
theorem j0_869 : ri (rt_P sc fm) 0 869 (.if_icmp .eq 465) (872) := ri_of (by decide +kernel) rfl
theorem j0_874 : ri (rt_P sc fm) 0 874 (.aload_n 1) (875) := ri_of (by decide +kernel) rfl
theorem j0_875 : ri (rt_P sc fm) 0 875 (.aload_n 0) (876) := ri_of (by decide +kernel) rfl
theorem j0_876 : ri (rt_P sc fm) 0 876 (.iload 4) (878) := ri_of (by decide +kernel) rfl
theorem j0_878 : ri (rt_P sc fm) 0 878 (.iconst 1) (879) := ri_of (by decide +kernel) rfl
theorem j0_879 : ri (rt_P sc fm) 0 879 (.iadd) (880) := ri_of (by decide +kernel) rfl
theorem j0_880 : ri (rt_P sc fm) 0 880 (.iaload) (881) := ri_of (by decide +kernel) rfl
theorem j0_881 : ri (rt_P sc fm) 0 881 (.invokevirtual 116) (884) := ri_of (by decide +kernel) rfl
theorem j0_884 : ri (rt_P sc fm) 0 884 (.aload_n 2) (885) := ri_of (by decide +kernel) rfl
theorem j0_885 : ri (rt_P sc fm) 0 885 (.aload_n 0) (886) := ri_of (by decide +kernel) rfl
theorem j0_886 : ri (rt_P sc fm) 0 886 (.iload 4) (888) := ri_of (by decide +kernel) rfl
theorem j0_888 : ri (rt_P sc fm) 0 888 (.iconst 1) (889) := ri_of (by decide +kernel) rfl
theorem j0_889 : ri (rt_P sc fm) 0 889 (.iadd) (890) := ri_of (by decide +kernel) rfl
theorem j0_890 : ri (rt_P sc fm) 0 890 (.iaload) (891) := ri_of (by decide +kernel) rfl
theorem j0_891 : ri (rt_P sc fm) 0 891 (.invokevirtual 119) (894) := ri_of (by decide +kernel) rfl
theorem j0_894 : ri (rt_P sc fm) 0 894 (.if_icmp .eq 440) (897) := ri_of (by decide +kernel) rfl
theorem j0_899 : ri (rt_P sc fm) 0 899 (.aload_n 1) (900) := ri_of (by decide +kernel) rfl
theorem j0_900 : ri (rt_P sc fm) 0 900 (.aload_n 0) (901) := ri_of (by decide +kernel) rfl
theorem j0_901 : ri (rt_P sc fm) 0 901 (.iload 4) (903) := ri_of (by decide +kernel) rfl
theorem j0_903 : ri (rt_P sc fm) 0 903 (.iconst 1) (904) := ri_of (by decide +kernel) rfl
theorem j0_904 : ri (rt_P sc fm) 0 904 (.iadd) (905) := ri_of (by decide +kernel) rfl
theorem j0_905 : ri (rt_P sc fm) 0 905 (.iaload) (906) := ri_of (by decide +kernel) rfl
theorem j0_906 : ri (rt_P sc fm) 0 906 (.aload_n 0) (907) := ri_of (by decide +kernel) rfl
theorem j0_907 : ri (rt_P sc fm) 0 907 (.iload 4) (909) := ri_of (by decide +kernel) rfl
theorem j0_909 : ri (rt_P sc fm) 0 909 (.iconst 2) (910) := ri_of (by decide +kernel) rfl
theorem j0_910 : ri (rt_P sc fm) 0 910 (.iadd) (911) := ri_of (by decide +kernel) rfl
theorem j0_911 : ri (rt_P sc fm) 0 911 (.iaload) (912) := ri_of (by decide +kernel) rfl
theorem j0_912 : ri (rt_P sc fm) 0 912 (.aload_n 0) (913) := ri_of (by decide +kernel) rfl
theorem j0_913 : ri (rt_P sc fm) 0 913 (.iload 4) (915) := ri_of (by decide +kernel) rfl
theorem j0_915 : ri (rt_P sc fm) 0 915 (.iconst 3) (916) := ri_of (by decide +kernel) rfl
theorem j0_916 : ri (rt_P sc fm) 0 916 (.iadd) (917) := ri_of (by decide +kernel) rfl
theorem j0_917 : ri (rt_P sc fm) 0 917 (.iaload) (918) := ri_of (by decide +kernel) rfl
theorem j0_918 : ri (rt_P sc fm) 0 918 (.invokevirtual 120) (921) := ri_of (by decide +kernel) rfl
theorem j0_921 : ri (rt_P sc fm) 0 921 (.aload_n 2) (922) := ri_of (by decide +kernel) rfl
theorem j0_922 : ri (rt_P sc fm) 0 922 (.aload_n 0) (923) := ri_of (by decide +kernel) rfl
theorem j0_923 : ri (rt_P sc fm) 0 923 (.iload 4) (925) := ri_of (by decide +kernel) rfl
theorem j0_925 : ri (rt_P sc fm) 0 925 (.iconst 1) (926) := ri_of (by decide +kernel) rfl
theorem j0_926 : ri (rt_P sc fm) 0 926 (.iadd) (927) := ri_of (by decide +kernel) rfl
theorem j0_927 : ri (rt_P sc fm) 0 927 (.iaload) (928) := ri_of (by decide +kernel) rfl
theorem j0_928 : ri (rt_P sc fm) 0 928 (.aload_n 0) (929) := ri_of (by decide +kernel) rfl
theorem j0_929 : ri (rt_P sc fm) 0 929 (.iload 4) (931) := ri_of (by decide +kernel) rfl
theorem j0_931 : ri (rt_P sc fm) 0 931 (.iconst 2) (932) := ri_of (by decide +kernel) rfl
theorem j0_932 : ri (rt_P sc fm) 0 932 (.iadd) (933) := ri_of (by decide +kernel) rfl
theorem j0_933 : ri (rt_P sc fm) 0 933 (.iaload) (934) := ri_of (by decide +kernel) rfl
theorem j0_934 : ri (rt_P sc fm) 0 934 (.aload_n 0) (935) := ri_of (by decide +kernel) rfl
theorem j0_935 : ri (rt_P sc fm) 0 935 (.iload 4) (937) := ri_of (by decide +kernel) rfl
theorem j0_937 : ri (rt_P sc fm) 0 937 (.iconst 3) (938) := ri_of (by decide +kernel) rfl
theorem j0_938 : ri (rt_P sc fm) 0 938 (.iadd) (939) := ri_of (by decide +kernel) rfl
theorem j0_939 : ri (rt_P sc fm) 0 939 (.iaload) (940) := ri_of (by decide +kernel) rfl
theorem j0_940 : ri (rt_P sc fm) 0 940 (.invokevirtual 123) (943) := ri_of (by decide +kernel) rfl
theorem j0_943 : ri (rt_P sc fm) 0 943 (.if_icmp .eq 391) (946) := ri_of (by decide +kernel) rfl
theorem j0_948 : ri (rt_P sc fm) 0 948 (.aload_n 1) (949) := ri_of (by decide +kernel) rfl
theorem j0_949 : ri (rt_P sc fm) 0 949 (.aload_n 0) (950) := ri_of (by decide +kernel) rfl
theorem j0_950 : ri (rt_P sc fm) 0 950 (.iload 4) (952) := ri_of (by decide +kernel) rfl
theorem j0_952 : ri (rt_P sc fm) 0 952 (.iconst 1) (953) := ri_of (by decide +kernel) rfl
theorem j0_953 : ri (rt_P sc fm) 0 953 (.iadd) (954) := ri_of (by decide +kernel) rfl
theorem j0_954 : ri (rt_P sc fm) 0 954 (.iaload) (955) := ri_of (by decide +kernel) rfl
theorem j0_955 : ri (rt_P sc fm) 0 955 (.invokevirtual 124) (958) := ri_of (by decide +kernel) rfl
theorem j0_958 : ri (rt_P sc fm) 0 958 (.aload_n 2) (959) := ri_of (by decide +kernel) rfl
theorem j0_959 : ri (rt_P sc fm) 0 959 (.aload_n 0) (960) := ri_of (by decide +kernel) rfl
theorem j0_960 : ri (rt_P sc fm) 0 960 (.iload 4) (962) := ri_of (by decide +kernel) rfl
theorem j0_962 : ri (rt_P sc fm) 0 962 (.iconst 1) (963) := ri_of (by decide +kernel) rfl
theorem j0_963 : ri (rt_P sc fm) 0 963 (.iadd) (964) := ri_of (by decide +kernel) rfl
theorem j0_964 : ri (rt_P sc fm) 0 964 (.iaload) (965) := ri_of (by decide +kernel) rfl
theorem j0_965 : ri (rt_P sc fm) 0 965 (.invokevirtual 127) (968) := ri_of (by decide +kernel) rfl
theorem j0_968 : ri (rt_P sc fm) 0 968 (.if_icmp .eq 366) (971) := ri_of (by decide +kernel) rfl
theorem j0_973 : ri (rt_P sc fm) 0 973 (.aload_n 1) (974) := ri_of (by decide +kernel) rfl
theorem j0_974 : ri (rt_P sc fm) 0 974 (.aload_n 0) (975) := ri_of (by decide +kernel) rfl
theorem j0_975 : ri (rt_P sc fm) 0 975 (.iload 4) (977) := ri_of (by decide +kernel) rfl
theorem j0_977 : ri (rt_P sc fm) 0 977 (.iconst 1) (978) := ri_of (by decide +kernel) rfl
theorem j0_978 : ri (rt_P sc fm) 0 978 (.iadd) (979) := ri_of (by decide +kernel) rfl
theorem j0_979 : ri (rt_P sc fm) 0 979 (.iaload) (980) := ri_of (by decide +kernel) rfl
theorem j0_980 : ri (rt_P sc fm) 0 980 (.invokevirtual 128) (983) := ri_of (by decide +kernel) rfl
theorem j0_983 : ri (rt_P sc fm) 0 983 (.aload_n 2) (984) := ri_of (by decide +kernel) rfl
theorem j0_984 : ri (rt_P sc fm) 0 984 (.aload_n 0) (985) := ri_of (by decide +kernel) rfl
theorem j0_985 : ri (rt_P sc fm) 0 985 (.iload 4) (987) := ri_of (by decide +kernel) rfl
theorem j0_987 : ri (rt_P sc fm) 0 987 (.iconst 1) (988) := ri_of (by decide +kernel) rfl
theorem j0_988 : ri (rt_P sc fm) 0 988 (.iadd) (989) := ri_of (by decide +kernel) rfl
theorem j0_989 : ri (rt_P sc fm) 0 989 (.iaload) (990) := ri_of (by decide +kernel) rfl
theorem j0_990 : ri (rt_P sc fm) 0 990 (.invokevirtual 132) (993) := ri_of (by decide +kernel) rfl
theorem j0_993 : ri (rt_P sc fm) 0 993 (.if_icmp .eq 341) (996) := ri_of (by decide +kernel) rfl
theorem j0_998 : ri (rt_P sc fm) 0 998 (.aload_n 1) (999) := ri_of (by decide +kernel) rfl
theorem j0_999 : ri (rt_P sc fm) 0 999 (.invokevirtual 133) (1002) := ri_of (by decide +kernel) rfl
theorem j0_1002 : ri (rt_P sc fm) 0 1002 (.aload_n 2) (1003) := ri_of (by decide +kernel) rfl
theorem j0_1003 : ri (rt_P sc fm) 0 1003 (.invokevirtual 136) (1006) := ri_of (by decide +kernel) rfl
theorem j0_1006 : ri (rt_P sc fm) 0 1006 (.if_icmp .eq 328) (1009) := ri_of (by decide +kernel) rfl
theorem j0_1011 : ri (rt_P sc fm) 0 1011 (.aload_n 1) (1012) := ri_of (by decide +kernel) rfl
theorem j0_1012 : ri (rt_P sc fm) 0 1012 (.aload_n 0) (1013) := ri_of (by decide +kernel) rfl
theorem j0_1013 : ri (rt_P sc fm) 0 1013 (.iload 4) (1015) := ri_of (by decide +kernel) rfl
theorem j0_1015 : ri (rt_P sc fm) 0 1015 (.iconst 1) (1016) := ri_of (by decide +kernel) rfl
theorem j0_1016 : ri (rt_P sc fm) 0 1016 (.iadd) (1017) := ri_of (by decide +kernel) rfl
theorem j0_1017 : ri (rt_P sc fm) 0 1017 (.iaload) (1018) := ri_of (by decide +kernel) rfl
theorem j0_1018 : ri (rt_P sc fm) 0 1018 (.aload_n 0) (1019) := ri_of (by decide +kernel) rfl
theorem j0_1019 : ri (rt_P sc fm) 0 1019 (.iload 4) (1021) := ri_of (by decide +kernel) rfl
theorem j0_1021 : ri (rt_P sc fm) 0 1021 (.iconst 2) (1022) := ri_of (by decide +kernel) rfl
theorem j0_1022 : ri (rt_P sc fm) 0 1022 (.iadd) (1023) := ri_of (by decide +kernel) rfl
theorem j0_1023 : ri (rt_P sc fm) 0 1023 (.iaload) (1024) := ri_of (by decide +kernel) rfl
theorem j0_1024 : ri (rt_P sc fm) 0 1024 (.ifCond .eq 7) (1027) := ri_of (by decide +kernel) rfl
theorem j0_1027 : ri (rt_P sc fm) 0 1027 (.iconst 1) (1028) := ri_of (by decide +kernel) rfl
theorem j0_1028 : ri (rt_P sc fm) 0 1028 (.goto 4) (1031) := ri_of (by decide +kernel) rfl
theorem j0_1031 : ri (rt_P sc fm) 0 1031 (.iconst 0) (1032) := ri_of (by decide +kernel) rfl
theorem j0_1032 : ri (rt_P sc fm) 0 1032 (.invokevirtual 137) (1035) := ri_of (by decide +kernel) rfl
theorem j0_1035 : ri (rt_P sc fm) 0 1035 (.aload_n 2) (1036) := ri_of (by decide +kernel) rfl
theorem j0_1036 : ri (rt_P sc fm) 0 1036 (.aload_n 0) (1037) := ri_of (by decide +kernel) rfl
theorem j0_1037 : ri (rt_P sc fm) 0 1037 (.iload 4) (1039) := ri_of (by decide +kernel) rfl
theorem j0_1039 : ri (rt_P sc fm) 0 1039 (.iconst 1) (1040) := ri_of (by decide +kernel) rfl
theorem j0_1040 : ri (rt_P sc fm) 0 1040 (.iadd) (1041) := ri_of (by decide +kernel) rfl
theorem j0_1041 : ri (rt_P sc fm) 0 1041 (.iaload) (1042) := ri_of (by decide +kernel) rfl
theorem j0_1042 : ri (rt_P sc fm) 0 1042 (.aload_n 0) (1043) := ri_of (by decide +kernel) rfl
theorem j0_1043 : ri (rt_P sc fm) 0 1043 (.iload 4) (1045) := ri_of (by decide +kernel) rfl
theorem j0_1045 : ri (rt_P sc fm) 0 1045 (.iconst 2) (1046) := ri_of (by decide +kernel) rfl
theorem j0_1046 : ri (rt_P sc fm) 0 1046 (.iadd) (1047) := ri_of (by decide +kernel) rfl
theorem j0_1047 : ri (rt_P sc fm) 0 1047 (.iaload) (1048) := ri_of (by decide +kernel) rfl
theorem j0_1048 : ri (rt_P sc fm) 0 1048 (.ifCond .eq 7) (1051) := ri_of (by decide +kernel) rfl
theorem j0_1051 : ri (rt_P sc fm) 0 1051 (.iconst 1) (1052) := ri_of (by decide +kernel) rfl
theorem j0_1052 : ri (rt_P sc fm) 0 1052 (.goto 4) (1055) := ri_of (by decide +kernel) rfl
theorem j0_1055 : ri (rt_P sc fm) 0 1055 (.iconst 0) (1056) := ri_of (by decide +kernel) rfl
theorem j0_1056 : ri (rt_P sc fm) 0 1056 (.invokevirtual 141) (1059) := ri_of (by decide +kernel) rfl
theorem j0_1059 : ri (rt_P sc fm) 0 1059 (.if_icmp .eq 275) (1062) := ri_of (by decide +kernel) rfl
theorem j0_1064 : ri (rt_P sc fm) 0 1064 (.aload_n 1) (1065) := ri_of (by decide +kernel) rfl
theorem j0_1065 : ri (rt_P sc fm) 0 1065 (.aload_n 0) (1066) := ri_of (by decide +kernel) rfl
theorem j0_1066 : ri (rt_P sc fm) 0 1066 (.iload 4) (1068) := ri_of (by decide +kernel) rfl
theorem j0_1068 : ri (rt_P sc fm) 0 1068 (.iconst 1) (1069) := ri_of (by decide +kernel) rfl
theorem j0_1069 : ri (rt_P sc fm) 0 1069 (.iadd) (1070) := ri_of (by decide +kernel) rfl
theorem j0_1070 : ri (rt_P sc fm) 0 1070 (.iaload) (1071) := ri_of (by decide +kernel) rfl
theorem j0_1071 : ri (rt_P sc fm) 0 1071 (.aload_n 0) (1072) := ri_of (by decide +kernel) rfl
theorem j0_1072 : ri (rt_P sc fm) 0 1072 (.iload 4) (1074) := ri_of (by decide +kernel) rfl
theorem j0_1074 : ri (rt_P sc fm) 0 1074 (.iconst 2) (1075) := ri_of (by decide +kernel) rfl
theorem j0_1075 : ri (rt_P sc fm) 0 1075 (.iadd) (1076) := ri_of (by decide +kernel) rfl
theorem j0_1076 : ri (rt_P sc fm) 0 1076 (.iaload) (1077) := ri_of (by decide +kernel) rfl
theorem j0_1077 : ri (rt_P sc fm) 0 1077 (.invokevirtual 142) (1080) := ri_of (by decide +kernel) rfl
theorem j0_1080 : ri (rt_P sc fm) 0 1080 (.aload_n 2) (1081) := ri_of (by decide +kernel) rfl
theorem j0_1081 : ri (rt_P sc fm) 0 1081 (.aload_n 0) (1082) := ri_of (by decide +kernel) rfl
theorem j0_1082 : ri (rt_P sc fm) 0 1082 (.iload 4) (1084) := ri_of (by decide +kernel) rfl
theorem j0_1084 : ri (rt_P sc fm) 0 1084 (.iconst 1) (1085) := ri_of (by decide +kernel) rfl
theorem j0_1085 : ri (rt_P sc fm) 0 1085 (.iadd) (1086) := ri_of (by decide +kernel) rfl
theorem j0_1086 : ri (rt_P sc fm) 0 1086 (.iaload) (1087) := ri_of (by decide +kernel) rfl
theorem j0_1087 : ri (rt_P sc fm) 0 1087 (.aload_n 0) (1088) := ri_of (by decide +kernel) rfl
theorem j0_1088 : ri (rt_P sc fm) 0 1088 (.iload 4) (1090) := ri_of (by decide +kernel) rfl
theorem j0_1090 : ri (rt_P sc fm) 0 1090 (.iconst 2) (1091) := ri_of (by decide +kernel) rfl
theorem j0_1091 : ri (rt_P sc fm) 0 1091 (.iadd) (1092) := ri_of (by decide +kernel) rfl
theorem j0_1092 : ri (rt_P sc fm) 0 1092 (.iaload) (1093) := ri_of (by decide +kernel) rfl
theorem j0_1093 : ri (rt_P sc fm) 0 1093 (.invokevirtual 146) (1096) := ri_of (by decide +kernel) rfl
theorem j0_1096 : ri (rt_P sc fm) 0 1096 (.if_icmp .eq 238) (1099) := ri_of (by decide +kernel) rfl
theorem j0_1101 : ri (rt_P sc fm) 0 1101 (.aload_n 1) (1102) := ri_of (by decide +kernel) rfl
theorem j0_1102 : ri (rt_P sc fm) 0 1102 (.aload_n 0) (1103) := ri_of (by decide +kernel) rfl
theorem j0_1103 : ri (rt_P sc fm) 0 1103 (.iload 4) (1105) := ri_of (by decide +kernel) rfl
theorem j0_1105 : ri (rt_P sc fm) 0 1105 (.iconst 1) (1106) := ri_of (by decide +kernel) rfl
theorem j0_1106 : ri (rt_P sc fm) 0 1106 (.iadd) (1107) := ri_of (by decide +kernel) rfl
theorem j0_1107 : ri (rt_P sc fm) 0 1107 (.iaload) (1108) := ri_of (by decide +kernel) rfl
theorem j0_1108 : ri (rt_P sc fm) 0 1108 (.invokevirtual 147) (1111) := ri_of (by decide +kernel) rfl
theorem j0_1111 : ri (rt_P sc fm) 0 1111 (.aload_n 2) (1112) := ri_of (by decide +kernel) rfl
theorem j0_1112 : ri (rt_P sc fm) 0 1112 (.aload_n 0) (1113) := ri_of (by decide +kernel) rfl
theorem j0_1113 : ri (rt_P sc fm) 0 1113 (.iload 4) (1115) := ri_of (by decide +kernel) rfl
theorem j0_1115 : ri (rt_P sc fm) 0 1115 (.iconst 1) (1116) := ri_of (by decide +kernel) rfl
theorem j0_1116 : ri (rt_P sc fm) 0 1116 (.iadd) (1117) := ri_of (by decide +kernel) rfl
theorem j0_1117 : ri (rt_P sc fm) 0 1117 (.iaload) (1118) := ri_of (by decide +kernel) rfl
theorem j0_1118 : ri (rt_P sc fm) 0 1118 (.invokevirtual 150) (1121) := ri_of (by decide +kernel) rfl
theorem j0_1121 : ri (rt_P sc fm) 0 1121 (.if_icmp .eq 213) (1124) := ri_of (by decide +kernel) rfl
theorem j0_1126 : ri (rt_P sc fm) 0 1126 (.aload_n 1) (1127) := ri_of (by decide +kernel) rfl
theorem j0_1127 : ri (rt_P sc fm) 0 1127 (.aload_n 0) (1128) := ri_of (by decide +kernel) rfl
theorem j0_1128 : ri (rt_P sc fm) 0 1128 (.iload 4) (1130) := ri_of (by decide +kernel) rfl
theorem j0_1130 : ri (rt_P sc fm) 0 1130 (.iconst 1) (1131) := ri_of (by decide +kernel) rfl
theorem j0_1131 : ri (rt_P sc fm) 0 1131 (.iadd) (1132) := ri_of (by decide +kernel) rfl
theorem j0_1132 : ri (rt_P sc fm) 0 1132 (.iaload) (1133) := ri_of (by decide +kernel) rfl
theorem j0_1133 : ri (rt_P sc fm) 0 1133 (.aload_n 0) (1134) := ri_of (by decide +kernel) rfl
theorem j0_1134 : ri (rt_P sc fm) 0 1134 (.iload 4) (1136) := ri_of (by decide +kernel) rfl
theorem j0_1136 : ri (rt_P sc fm) 0 1136 (.iconst 2) (1137) := ri_of (by decide +kernel) rfl
theorem j0_1137 : ri (rt_P sc fm) 0 1137 (.iadd) (1138) := ri_of (by decide +kernel) rfl
theorem j0_1138 : ri (rt_P sc fm) 0 1138 (.iaload) (1139) := ri_of (by decide +kernel) rfl
theorem j0_1139 : ri (rt_P sc fm) 0 1139 (.ifCond .eq 7) (1142) := ri_of (by decide +kernel) rfl
theorem j0_1142 : ri (rt_P sc fm) 0 1142 (.iconst 1) (1143) := ri_of (by decide +kernel) rfl
theorem j0_1143 : ri (rt_P sc fm) 0 1143 (.goto 4) (1146) := ri_of (by decide +kernel) rfl
theorem j0_1146 : ri (rt_P sc fm) 0 1146 (.iconst 0) (1147) := ri_of (by decide +kernel) rfl
theorem j0_1147 : ri (rt_P sc fm) 0 1147 (.invokestatic 151) (1150) := ri_of (by decide +kernel) rfl
theorem j0_1150 : ri (rt_P sc fm) 0 1150 (.istore 5) (1152) := ri_of (by decide +kernel) rfl
theorem j0_1152 : ri (rt_P sc fm) 0 1152 (.aload_n 2) (1153) := ri_of (by decide +kernel) rfl
theorem j0_1153 : ri (rt_P sc fm) 0 1153 (.aload_n 0) (1154) := ri_of (by decide +kernel) rfl
theorem j0_1154 : ri (rt_P sc fm) 0 1154 (.iload 4) (1156) := ri_of (by decide +kernel) rfl
theorem j0_1156 : ri (rt_P sc fm) 0 1156 (.iconst 1) (1157) := ri_of (by decide +kernel) rfl
theorem j0_1157 : ri (rt_P sc fm) 0 1157 (.iadd) (1158) := ri_of (by decide +kernel) rfl
theorem j0_1158 : ri (rt_P sc fm) 0 1158 (.iaload) (1159) := ri_of (by decide +kernel) rfl
theorem j0_1159 : ri (rt_P sc fm) 0 1159 (.aload_n 0) (1160) := ri_of (by decide +kernel) rfl
theorem j0_1160 : ri (rt_P sc fm) 0 1160 (.iload 4) (1162) := ri_of (by decide +kernel) rfl
theorem j0_1162 : ri (rt_P sc fm) 0 1162 (.iconst 2) (1163) := ri_of (by decide +kernel) rfl
theorem j0_1163 : ri (rt_P sc fm) 0 1163 (.iadd) (1164) := ri_of (by decide +kernel) rfl
theorem j0_1164 : ri (rt_P sc fm) 0 1164 (.iaload) (1165) := ri_of (by decide +kernel) rfl
theorem j0_1165 : ri (rt_P sc fm) 0 1165 (.ifCond .eq 7) (1168) := ri_of (by decide +kernel) rfl
theorem j0_1168 : ri (rt_P sc fm) 0 1168 (.iconst 1) (1169) := ri_of (by decide +kernel) rfl
theorem j0_1169 : ri (rt_P sc fm) 0 1169 (.goto 4) (1172) := ri_of (by decide +kernel) rfl
theorem j0_1172 : ri (rt_P sc fm) 0 1172 (.iconst 0) (1173) := ri_of (by decide +kernel) rfl
theorem j0_1173 : ri (rt_P sc fm) 0 1173 (.invokevirtual 154) (1176) := ri_of (by decide +kernel) rfl
theorem j0_1176 : ri (rt_P sc fm) 0 1176 (.aload_n 2) (1177) := ri_of (by decide +kernel) rfl
theorem j0_1177 : ri (rt_P sc fm) 0 1177 (.invokevirtual 50) (1180) := ri_of (by decide +kernel) rfl
theorem j0_1180 : ri (rt_P sc fm) 0 1180 (.iload 5) (1182) := ri_of (by decide +kernel) rfl
theorem j0_1182 : ri (rt_P sc fm) 0 1182 (.if_icmp .eq 5) (1185) := ri_of (by decide +kernel) rfl
theorem j0_1187 : ri (rt_P sc fm) 0 1187 (.goto 147) (1190) := ri_of (by decide +kernel) rfl
theorem j0_1190 : ri (rt_P sc fm) 0 1190 (.aload_n 1) (1191) := ri_of (by decide +kernel) rfl
theorem j0_1191 : ri (rt_P sc fm) 0 1191 (.aload_n 0) (1192) := ri_of (by decide +kernel) rfl
theorem j0_1192 : ri (rt_P sc fm) 0 1192 (.iload 4) (1194) := ri_of (by decide +kernel) rfl
theorem j0_1194 : ri (rt_P sc fm) 0 1194 (.iconst 1) (1195) := ri_of (by decide +kernel) rfl
theorem j0_1195 : ri (rt_P sc fm) 0 1195 (.iadd) (1196) := ri_of (by decide +kernel) rfl
theorem j0_1196 : ri (rt_P sc fm) 0 1196 (.iaload) (1197) := ri_of (by decide +kernel) rfl
theorem j0_1197 : ri (rt_P sc fm) 0 1197 (.aload_n 3) (1198) := ri_of (by decide +kernel) rfl
theorem j0_1198 : ri (rt_P sc fm) 0 1198 (.invokestatic 155) (1201) := ri_of (by decide +kernel) rfl
theorem j0_1201 : ri (rt_P sc fm) 0 1201 (.istore 5) (1203) := ri_of (by decide +kernel) rfl
theorem j0_1203 : ri (rt_P sc fm) 0 1203 (.aload_n 2) (1204) := ri_of (by decide +kernel) rfl
theorem j0_1204 : ri (rt_P sc fm) 0 1204 (.aload_n 0) (1205) := ri_of (by decide +kernel) rfl
theorem j0_1205 : ri (rt_P sc fm) 0 1205 (.iload 4) (1207) := ri_of (by decide +kernel) rfl
theorem j0_1207 : ri (rt_P sc fm) 0 1207 (.iconst 1) (1208) := ri_of (by decide +kernel) rfl
theorem j0_1208 : ri (rt_P sc fm) 0 1208 (.iadd) (1209) := ri_of (by decide +kernel) rfl
theorem j0_1209 : ri (rt_P sc fm) 0 1209 (.iaload) (1210) := ri_of (by decide +kernel) rfl
theorem j0_1210 : ri (rt_P sc fm) 0 1210 (.invokevirtual 158) (1213) := ri_of (by decide +kernel) rfl
theorem j0_1213 : ri (rt_P sc fm) 0 1213 (.istore 6) (1215) := ri_of (by decide +kernel) rfl
theorem j0_1215 : ri (rt_P sc fm) 0 1215 (.aload_n 2) (1216) := ri_of (by decide +kernel) rfl
theorem j0_1216 : ri (rt_P sc fm) 0 1216 (.invokevirtual 50) (1219) := ri_of (by decide +kernel) rfl
theorem j0_1219 : ri (rt_P sc fm) 0 1219 (.iload 5) (1221) := ri_of (by decide +kernel) rfl
theorem j0_1221 : ri (rt_P sc fm) 0 1221 (.if_icmp .eq 5) (1224) := ri_of (by decide +kernel) rfl
theorem j0_1226 : ri (rt_P sc fm) 0 1226 (.iload 5) (1228) := ri_of (by decide +kernel) rfl
theorem j0_1228 : ri (rt_P sc fm) 0 1228 (.ifCond .ne 15) (1231) := ri_of (by decide +kernel) rfl
theorem j0_1231 : ri (rt_P sc fm) 0 1231 (.aload_n 3) (1232) := ri_of (by decide +kernel) rfl
theorem j0_1232 : ri (rt_P sc fm) 0 1232 (.iconst 0) (1233) := ri_of (by decide +kernel) rfl
theorem j0_1233 : ri (rt_P sc fm) 0 1233 (.laload) (1234) := ri_of (by decide +kernel) rfl
theorem j0_1234 : ri (rt_P sc fm) 0 1234 (.iload 6) (1236) := ri_of (by decide +kernel) rfl
theorem j0_1236 : ri (rt_P sc fm) 0 1236 (.i2l) (1237) := ri_of (by decide +kernel) rfl
theorem j0_1237 : ri (rt_P sc fm) 0 1237 (.lcmp) (1238) := ri_of (by decide +kernel) rfl
theorem j0_1238 : ri (rt_P sc fm) 0 1238 (.ifCond .eq 5) (1241) := ri_of (by decide +kernel) rfl
theorem j0_1243 : ri (rt_P sc fm) 0 1243 (.goto 91) (1246) := ri_of (by decide +kernel) rfl
theorem j0_1246 : ri (rt_P sc fm) 0 1246 (.aload_n 1) (1247) := ri_of (by decide +kernel) rfl
theorem j0_1247 : ri (rt_P sc fm) 0 1247 (.aload_n 0) (1248) := ri_of (by decide +kernel) rfl
theorem j0_1248 : ri (rt_P sc fm) 0 1248 (.iload 4) (1250) := ri_of (by decide +kernel) rfl
theorem j0_1250 : ri (rt_P sc fm) 0 1250 (.iconst 1) (1251) := ri_of (by decide +kernel) rfl
theorem j0_1251 : ri (rt_P sc fm) 0 1251 (.iadd) (1252) := ri_of (by decide +kernel) rfl
theorem j0_1252 : ri (rt_P sc fm) 0 1252 (.iaload) (1253) := ri_of (by decide +kernel) rfl
theorem j0_1253 : ri (rt_P sc fm) 0 1253 (.invokevirtual 159) (1256) := ri_of (by decide +kernel) rfl
theorem j0_1256 : ri (rt_P sc fm) 0 1256 (.aload_n 2) (1257) := ri_of (by decide +kernel) rfl
theorem j0_1257 : ri (rt_P sc fm) 0 1257 (.aload_n 0) (1258) := ri_of (by decide +kernel) rfl
theorem j0_1258 : ri (rt_P sc fm) 0 1258 (.iload 4) (1260) := ri_of (by decide +kernel) rfl
theorem j0_1260 : ri (rt_P sc fm) 0 1260 (.iconst 1) (1261) := ri_of (by decide +kernel) rfl
theorem j0_1261 : ri (rt_P sc fm) 0 1261 (.iadd) (1262) := ri_of (by decide +kernel) rfl
theorem j0_1262 : ri (rt_P sc fm) 0 1262 (.iaload) (1263) := ri_of (by decide +kernel) rfl
theorem j0_1263 : ri (rt_P sc fm) 0 1263 (.invokevirtual 162) (1266) := ri_of (by decide +kernel) rfl
theorem j0_1266 : ri (rt_P sc fm) 0 1266 (.if_icmp .eq 68) (1269) := ri_of (by decide +kernel) rfl
theorem j0_1271 : ri (rt_P sc fm) 0 1271 (.aload_n 1) (1272) := ri_of (by decide +kernel) rfl
theorem j0_1272 : ri (rt_P sc fm) 0 1272 (.aload_n 0) (1273) := ri_of (by decide +kernel) rfl
theorem j0_1273 : ri (rt_P sc fm) 0 1273 (.iload 4) (1275) := ri_of (by decide +kernel) rfl
theorem j0_1275 : ri (rt_P sc fm) 0 1275 (.iconst 1) (1276) := ri_of (by decide +kernel) rfl
theorem j0_1276 : ri (rt_P sc fm) 0 1276 (.iadd) (1277) := ri_of (by decide +kernel) rfl
theorem j0_1277 : ri (rt_P sc fm) 0 1277 (.iaload) (1278) := ri_of (by decide +kernel) rfl
theorem j0_1278 : ri (rt_P sc fm) 0 1278 (.invokevirtual 163) (1281) := ri_of (by decide +kernel) rfl
theorem j0_1281 : ri (rt_P sc fm) 0 1281 (.aload_n 2) (1282) := ri_of (by decide +kernel) rfl
theorem j0_1282 : ri (rt_P sc fm) 0 1282 (.aload_n 0) (1283) := ri_of (by decide +kernel) rfl
theorem j0_1283 : ri (rt_P sc fm) 0 1283 (.iload 4) (1285) := ri_of (by decide +kernel) rfl
theorem j0_1285 : ri (rt_P sc fm) 0 1285 (.iconst 1) (1286) := ri_of (by decide +kernel) rfl
theorem j0_1286 : ri (rt_P sc fm) 0 1286 (.iadd) (1287) := ri_of (by decide +kernel) rfl
theorem j0_1287 : ri (rt_P sc fm) 0 1287 (.iaload) (1288) := ri_of (by decide +kernel) rfl
theorem j0_1288 : ri (rt_P sc fm) 0 1288 (.invokevirtual 166) (1291) := ri_of (by decide +kernel) rfl
theorem j0_1291 : ri (rt_P sc fm) 0 1291 (.if_icmp .eq 43) (1294) := ri_of (by decide +kernel) rfl
theorem j0_1296 : ri (rt_P sc fm) 0 1296 (.aload_n 1) (1297) := ri_of (by decide +kernel) rfl
theorem j0_1297 : ri (rt_P sc fm) 0 1297 (.invokevirtual 167) (1300) := ri_of (by decide +kernel) rfl
theorem j0_1300 : ri (rt_P sc fm) 0 1300 (.aload_n 2) (1301) := ri_of (by decide +kernel) rfl
theorem j0_1301 : ri (rt_P sc fm) 0 1301 (.invokevirtual 170) (1304) := ri_of (by decide +kernel) rfl
theorem j0_1304 : ri (rt_P sc fm) 0 1304 (.if_icmp .eq 30) (1307) := ri_of (by decide +kernel) rfl
theorem j0_1309 : ri (rt_P sc fm) 0 1309 (.aload_n 1) (1310) := ri_of (by decide +kernel) rfl
theorem j0_1310 : ri (rt_P sc fm) 0 1310 (.aload_n 0) (1311) := ri_of (by decide +kernel) rfl
theorem j0_1311 : ri (rt_P sc fm) 0 1311 (.iload 4) (1313) := ri_of (by decide +kernel) rfl
theorem j0_1313 : ri (rt_P sc fm) 0 1313 (.iconst 1) (1314) := ri_of (by decide +kernel) rfl
theorem j0_1314 : ri (rt_P sc fm) 0 1314 (.iadd) (1315) := ri_of (by decide +kernel) rfl
theorem j0_1315 : ri (rt_P sc fm) 0 1315 (.iaload) (1316) := ri_of (by decide +kernel) rfl
theorem j0_1316 : ri (rt_P sc fm) 0 1316 (.invokevirtual 171) (1319) := ri_of (by decide +kernel) rfl
theorem j0_1319 : ri (rt_P sc fm) 0 1319 (.aload_n 2) (1320) := ri_of (by decide +kernel) rfl
theorem j0_1320 : ri (rt_P sc fm) 0 1320 (.aload_n 0) (1321) := ri_of (by decide +kernel) rfl
theorem j0_1321 : ri (rt_P sc fm) 0 1321 (.iload 4) (1323) := ri_of (by decide +kernel) rfl
theorem j0_1323 : ri (rt_P sc fm) 0 1323 (.iconst 1) (1324) := ri_of (by decide +kernel) rfl
theorem j0_1324 : ri (rt_P sc fm) 0 1324 (.iadd) (1325) := ri_of (by decide +kernel) rfl
theorem j0_1325 : ri (rt_P sc fm) 0 1325 (.iaload) (1326) := ri_of (by decide +kernel) rfl
theorem j0_1326 : ri (rt_P sc fm) 0 1326 (.invokevirtual 174) (1329) := ri_of (by decide +kernel) rfl
theorem j0_1329 : ri (rt_P sc fm) 0 1329 (.if_icmp .eq 5) (1332) := ri_of (by decide +kernel) rfl
theorem j0_1334 : ri (rt_P sc fm) 0 1334 (.iinc 4 6) (1337) := ri_of (by decide +kernel) rfl
theorem j0_1337 : ri (rt_P sc fm) 0 1337 (.goto (-1314)) (1340) := ri_of (by decide +kernel) rfl
theorem j0_1340 : ri (rt_P sc fm) 0 1340 (.iconst 1) (1341) := ri_of (by decide +kernel) rfl
theorem j0_1341 : ri (rt_P sc fm) 0 1341 (.ireturn) (1342) := ri_of (by decide +kernel) rfl
theorem j16_0 : ri (rt_P sc fm) 16 0 (.aload_n 1) (1) := ri_of (by decide +kernel) rfl
theorem j16_1 : ri (rt_P sc fm) 16 1 (.iconst 0) (2) := ri_of (by decide +kernel) rfl
theorem j16_2 : ri (rt_P sc fm) 16 2 (.aload_n 0) (3) := ri_of (by decide +kernel) rfl
theorem j16_3 : ri (rt_P sc fm) 16 3 (.invokevirtual 7) (6) := ri_of (by decide +kernel) rfl
theorem j16_6 : ri (rt_P sc fm) 16 6 (.i2l) (7) := ri_of (by decide +kernel) rfl
theorem j16_7 : ri (rt_P sc fm) 16 7 (.lastore) (8) := ri_of (by decide +kernel) rfl
theorem j16_8 : ri (rt_P sc fm) 16 8 (.goto 6) (11) := ri_of (by decide +kernel) rfl
theorem j16_12 : ri (rt_P sc fm) 16 12 (.iconst 1) (13) := ri_of (by decide +kernel) rfl
theorem j16_13 : ri (rt_P sc fm) 16 13 (.ireturn) (14) := ri_of (by decide +kernel) rfl
theorem j16_14 : ri (rt_P sc fm) 16 14 (.iconst 0) (15) := ri_of (by decide +kernel) rfl
theorem j16_15 : ri (rt_P sc fm) 16 15 (.ireturn) (16) := ri_of (by decide +kernel) rfl
theorem j17_0 : ri (rt_P sc fm) 17 0 (.aload_n 0) (1) := ri_of (by decide +kernel) rfl
theorem j17_1 : ri (rt_P sc fm) 17 1 (.iload_n 1) (2) := ri_of (by decide +kernel) rfl
theorem j17_2 : ri (rt_P sc fm) 17 2 (.iload_n 2) (3) := ri_of (by decide +kernel) rfl
theorem j17_3 : ri (rt_P sc fm) 17 3 (.invokevirtual 15) (6) := ri_of (by decide +kernel) rfl
theorem j17_6 : ri (rt_P sc fm) 17 6 (.goto 9) (9) := ri_of (by decide +kernel) rfl
theorem j17_10 : ri (rt_P sc fm) 17 10 (.iconst 1) (11) := ri_of (by decide +kernel) rfl
theorem j17_11 : ri (rt_P sc fm) 17 11 (.ireturn) (12) := ri_of (by decide +kernel) rfl
theorem j17_13 : ri (rt_P sc fm) 17 13 (.iconst 2) (14) := ri_of (by decide +kernel) rfl
theorem j17_14 : ri (rt_P sc fm) 17 14 (.ireturn) (15) := ri_of (by decide +kernel) rfl
theorem j17_15 : ri (rt_P sc fm) 17 15 (.iconst 0) (16) := ri_of (by decide +kernel) rfl
theorem j17_16 : ri (rt_P sc fm) 17 16 (.ireturn) (17) := ri_of (by decide +kernel) rfl
theorem j18_0 : ri (rt_P sc fm) 18 0 (.aload_n 2) (1) := ri_of (by decide +kernel) rfl
theorem j18_1 : ri (rt_P sc fm) 18 1 (.iconst 0) (2) := ri_of (by decide +kernel) rfl
theorem j18_2 : ri (rt_P sc fm) 18 2 (.aload_n 0) (3) := ri_of (by decide +kernel) rfl
theorem j18_3 : ri (rt_P sc fm) 18 3 (.iload_n 1) (4) := ri_of (by decide +kernel) rfl
theorem j18_4 : ri (rt_P sc fm) 18 4 (.invokevirtual 23) (7) := ri_of (by decide +kernel) rfl
theorem j18_7 : ri (rt_P sc fm) 18 7 (.i2l) (8) := ri_of (by decide +kernel) rfl
theorem j18_8 : ri (rt_P sc fm) 18 8 (.lastore) (9) := ri_of (by decide +kernel) rfl
theorem j18_9 : ri (rt_P sc fm) 18 9 (.goto 9) (12) := ri_of (by decide +kernel) rfl
theorem j18_13 : ri (rt_P sc fm) 18 13 (.iconst 1) (14) := ri_of (by decide +kernel) rfl
theorem j18_14 : ri (rt_P sc fm) 18 14 (.ireturn) (15) := ri_of (by decide +kernel) rfl
theorem j18_16 : ri (rt_P sc fm) 18 16 (.iconst 2) (17) := ri_of (by decide +kernel) rfl
theorem j18_17 : ri (rt_P sc fm) 18 17 (.ireturn) (18) := ri_of (by decide +kernel) rfl
theorem j18_18 : ri (rt_P sc fm) 18 18 (.iconst 0) (19) := ri_of (by decide +kernel) rfl
theorem j18_19 : ri (rt_P sc fm) 18 19 (.ireturn) (20) := ri_of (by decide +kernel) rfl
theorem kt0_31 : rx_ct (rt_P sc fm) 0 31 = some (0, 56, 5) := (by decide +kernel : rt_ct 0 31 = some (0, 56, 5))
theorem kt0_35 : rx_ct (rt_P sc fm) 0 35 = some (0, 93, 5) := (by decide +kernel : rt_ct 0 35 = some (0, 93, 5))
theorem kt0_36 : rx_ct (rt_P sc fm) 0 36 = some (0, 57, 1) := (by decide +kernel : rt_ct 0 36 = some (0, 57, 1))
theorem kt0_39 : rx_ct (rt_P sc fm) 0 39 = some (0, 95, 1) := (by decide +kernel : rt_ct 0 39 = some (0, 95, 1))
theorem kt0_40 : rx_ct (rt_P sc fm) 0 40 = some (0, 58, 1) := (by decide +kernel : rt_ct 0 40 = some (0, 58, 1))
theorem kt0_43 : rx_ct (rt_P sc fm) 0 43 = some (0, 96, 1) := (by decide +kernel : rt_ct 0 43 = some (0, 96, 1))
theorem kt0_44 : rx_ct (rt_P sc fm) 0 44 = some (3, 16, 2) := (by decide +kernel : rt_ct 0 44 = some (3, 16, 2))
theorem kt0_49 : rx_ct (rt_P sc fm) 0 49 = some (0, 106, 0) := (by decide +kernel : rt_ct 0 49 = some (0, 106, 0))
theorem kt0_50 : rx_ct (rt_P sc fm) 0 50 = some (0, 92, 0) := (by decide +kernel : rt_ct 0 50 = some (0, 92, 0))
theorem kt0_53 : rx_ct (rt_P sc fm) 0 53 = some (0, 60, 1) := (by decide +kernel : rt_ct 0 53 = some (0, 60, 1))
theorem kt0_56 : rx_ct (rt_P sc fm) 0 56 = some (0, 107, 1) := (by decide +kernel : rt_ct 0 56 = some (0, 107, 1))
theorem kt0_57 : rx_ct (rt_P sc fm) 0 57 = some (0, 61, 0) := (by decide +kernel : rt_ct 0 57 = some (0, 61, 0))
theorem kt0_60 : rx_ct (rt_P sc fm) 0 60 = some (0, 123, 0) := (by decide +kernel : rt_ct 0 60 = some (0, 123, 0))
theorem kt0_61 : rx_ct (rt_P sc fm) 0 61 = some (0, 62, 2) := (by decide +kernel : rt_ct 0 61 = some (0, 62, 2))
theorem kt0_65 : rx_ct (rt_P sc fm) 0 65 = some (0, 118, 2) := (by decide +kernel : rt_ct 0 65 = some (0, 118, 2))
theorem kt0_66 : rx_ct (rt_P sc fm) 0 66 = some (0, 63, 4) := (by decide +kernel : rt_ct 0 66 = some (0, 63, 4))
theorem kt0_70 : rx_ct (rt_P sc fm) 0 70 = some (0, 120, 4) := (by decide +kernel : rt_ct 0 70 = some (0, 120, 4))
theorem kt0_71 : rx_ct (rt_P sc fm) 0 71 = some (0, 64, 3) := (by decide +kernel : rt_ct 0 71 = some (0, 64, 3))
theorem kt0_75 : rx_ct (rt_P sc fm) 0 75 = some (0, 117, 3) := (by decide +kernel : rt_ct 0 75 = some (0, 117, 3))
theorem kt0_76 : rx_ct (rt_P sc fm) 0 76 = some (0, 65, 1) := (by decide +kernel : rt_ct 0 76 = some (0, 65, 1))
theorem kt0_79 : rx_ct (rt_P sc fm) 0 79 = some (0, 121, 1) := (by decide +kernel : rt_ct 0 79 = some (0, 121, 1))
theorem kt0_80 : rx_ct (rt_P sc fm) 0 80 = some (0, 66, 1) := (by decide +kernel : rt_ct 0 80 = some (0, 66, 1))
theorem kt0_83 : rx_ct (rt_P sc fm) 0 83 = some (0, 122, 1) := (by decide +kernel : rt_ct 0 83 = some (0, 122, 1))
theorem kt0_84 : rx_ct (rt_P sc fm) 0 84 = some (0, 67, 2) := (by decide +kernel : rt_ct 0 84 = some (0, 67, 2))
theorem kt0_87 : rx_ct (rt_P sc fm) 0 87 = some (0, 114, 2) := (by decide +kernel : rt_ct 0 87 = some (0, 114, 2))
theorem kt0_88 : rx_ct (rt_P sc fm) 0 88 = some (0, 68, 3) := (by decide +kernel : rt_ct 0 88 = some (0, 68, 3))
theorem kt0_91 : rx_ct (rt_P sc fm) 0 91 = some (0, 115, 3) := (by decide +kernel : rt_ct 0 91 = some (0, 115, 3))
theorem kt0_92 : rx_ct (rt_P sc fm) 0 92 = some (0, 69, 4) := (by decide +kernel : rt_ct 0 92 = some (0, 69, 4))
theorem kt0_95 : rx_ct (rt_P sc fm) 0 95 = some (0, 116, 4) := (by decide +kernel : rt_ct 0 95 = some (0, 116, 4))
theorem kt0_96 : rx_ct (rt_P sc fm) 0 96 = some (0, 71, 2) := (by decide +kernel : rt_ct 0 96 = some (0, 71, 2))
theorem kt0_99 : rx_ct (rt_P sc fm) 0 99 = some (0, 125, 2) := (by decide +kernel : rt_ct 0 99 = some (0, 125, 2))
theorem kt0_100 : rx_ct (rt_P sc fm) 0 100 = some (0, 72, 0) := (by decide +kernel : rt_ct 0 100 = some (0, 72, 0))
theorem kt0_103 : rx_ct (rt_P sc fm) 0 103 = some (0, 124, 0) := (by decide +kernel : rt_ct 0 103 = some (0, 124, 0))
theorem kt0_104 : rx_ct (rt_P sc fm) 0 104 = some (0, 73, 1) := (by decide +kernel : rt_ct 0 104 = some (0, 73, 1))
theorem kt0_107 : rx_ct (rt_P sc fm) 0 107 = some (0, 126, 1) := (by decide +kernel : rt_ct 0 107 = some (0, 126, 1))
theorem kt0_108 : rx_ct (rt_P sc fm) 0 108 = some (0, 74, 2) := (by decide +kernel : rt_ct 0 108 = some (0, 74, 2))
theorem kt0_111 : rx_ct (rt_P sc fm) 0 111 = some (0, 127, 2) := (by decide +kernel : rt_ct 0 111 = some (0, 127, 2))
theorem kt0_112 : rx_ct (rt_P sc fm) 0 112 = some (0, 75, 1) := (by decide +kernel : rt_ct 0 112 = some (0, 75, 1))
theorem kt0_115 : rx_ct (rt_P sc fm) 0 115 = some (0, 129, 1) := (by decide +kernel : rt_ct 0 115 = some (0, 129, 1))
theorem kt0_116 : rx_ct (rt_P sc fm) 0 116 = some (0, 76, 1) := (by decide +kernel : rt_ct 0 116 = some (0, 76, 1))
theorem kt0_119 : rx_ct (rt_P sc fm) 0 119 = some (0, 130, 1) := (by decide +kernel : rt_ct 0 119 = some (0, 130, 1))
theorem kt0_120 : rx_ct (rt_P sc fm) 0 120 = some (0, 77, 3) := (by decide +kernel : rt_ct 0 120 = some (0, 77, 3))
theorem kt0_123 : rx_ct (rt_P sc fm) 0 123 = some (0, 128, 3) := (by decide +kernel : rt_ct 0 123 = some (0, 128, 3))
theorem kt0_124 : rx_ct (rt_P sc fm) 0 124 = some (0, 78, 1) := (by decide +kernel : rt_ct 0 124 = some (0, 78, 1))
theorem kt0_127 : rx_ct (rt_P sc fm) 0 127 = some (0, 131, 1) := (by decide +kernel : rt_ct 0 127 = some (0, 131, 1))
theorem kt0_128 : rx_ct (rt_P sc fm) 0 128 = some (0, 79, 1) := (by decide +kernel : rt_ct 0 128 = some (0, 79, 1))
theorem kt0_132 : rx_ct (rt_P sc fm) 0 132 = some (0, 132, 1) := (by decide +kernel : rt_ct 0 132 = some (0, 132, 1))
theorem kt0_133 : rx_ct (rt_P sc fm) 0 133 = some (0, 80, 0) := (by decide +kernel : rt_ct 0 133 = some (0, 80, 0))
theorem kt0_136 : rx_ct (rt_P sc fm) 0 136 = some (0, 134, 0) := (by decide +kernel : rt_ct 0 136 = some (0, 134, 0))
theorem kt0_137 : rx_ct (rt_P sc fm) 0 137 = some (0, 81, 2) := (by decide +kernel : rt_ct 0 137 = some (0, 81, 2))
theorem kt0_141 : rx_ct (rt_P sc fm) 0 141 = some (0, 135, 2) := (by decide +kernel : rt_ct 0 141 = some (0, 135, 2))
theorem kt0_142 : rx_ct (rt_P sc fm) 0 142 = some (0, 82, 2) := (by decide +kernel : rt_ct 0 142 = some (0, 82, 2))
theorem kt0_146 : rx_ct (rt_P sc fm) 0 146 = some (0, 136, 2) := (by decide +kernel : rt_ct 0 146 = some (0, 136, 2))
theorem kt0_147 : rx_ct (rt_P sc fm) 0 147 = some (0, 83, 1) := (by decide +kernel : rt_ct 0 147 = some (0, 83, 1))
theorem kt0_150 : rx_ct (rt_P sc fm) 0 150 = some (0, 137, 1) := (by decide +kernel : rt_ct 0 150 = some (0, 137, 1))
theorem kt0_151 : rx_ct (rt_P sc fm) 0 151 = some (3, 17, 3) := (by decide +kernel : rt_ct 0 151 = some (3, 17, 3))
theorem kt0_154 : rx_ct (rt_P sc fm) 0 154 = some (0, 139, 2) := (by decide +kernel : rt_ct 0 154 = some (0, 139, 2))
theorem kt0_155 : rx_ct (rt_P sc fm) 0 155 = some (3, 18, 3) := (by decide +kernel : rt_ct 0 155 = some (3, 18, 3))
theorem kt0_158 : rx_ct (rt_P sc fm) 0 158 = some (0, 140, 1) := (by decide +kernel : rt_ct 0 158 = some (0, 140, 1))
theorem kt0_159 : rx_ct (rt_P sc fm) 0 159 = some (0, 86, 1) := (by decide +kernel : rt_ct 0 159 = some (0, 86, 1))
theorem kt0_162 : rx_ct (rt_P sc fm) 0 162 = some (0, 141, 1) := (by decide +kernel : rt_ct 0 162 = some (0, 141, 1))
theorem kt0_163 : rx_ct (rt_P sc fm) 0 163 = some (0, 87, 1) := (by decide +kernel : rt_ct 0 163 = some (0, 87, 1))
theorem kt0_166 : rx_ct (rt_P sc fm) 0 166 = some (0, 142, 1) := (by decide +kernel : rt_ct 0 166 = some (0, 142, 1))
theorem kt0_167 : rx_ct (rt_P sc fm) 0 167 = some (0, 88, 0) := (by decide +kernel : rt_ct 0 167 = some (0, 88, 0))
theorem kt0_170 : rx_ct (rt_P sc fm) 0 170 = some (0, 143, 0) := (by decide +kernel : rt_ct 0 170 = some (0, 143, 0))
theorem kt0_171 : rx_ct (rt_P sc fm) 0 171 = some (0, 89, 1) := (by decide +kernel : rt_ct 0 171 = some (0, 89, 1))
theorem kt0_174 : rx_ct (rt_P sc fm) 0 174 = some (0, 144, 1) := (by decide +kernel : rt_ct 0 174 = some (0, 144, 1))
theorem kt16_7 : rx_ct (rt_P sc fm) 16 7 = some (0, 59, 0) := (by decide +kernel : rt_ct 16 7 = some (0, 59, 0))
theorem kt17_15 : rx_ct (rt_P sc fm) 17 15 = some (0, 84, 2) := (by decide +kernel : rt_ct 17 15 = some (0, 84, 2))
theorem kt18_23 : rx_ct (rt_P sc fm) 18 23 = some (0, 85, 1) := (by decide +kernel : rt_ct 18 23 = some (0, 85, 1))
theorem ka14_56 : rz_cn 14 (rx_yn (rt_P sc fm) 56).cls = true := (by decide +kernel : rz_cn 14 (rt_yn 56).cls = true)
theorem ka14_57 : rz_cn 14 (rx_yn (rt_P sc fm) 57).cls = true := (by decide +kernel : rz_cn 14 (rt_yn 57).cls = true)
theorem ka14_58 : rz_cn 14 (rx_yn (rt_P sc fm) 58).cls = true := (by decide +kernel : rz_cn 14 (rt_yn 58).cls = true)
theorem ka14_59 : rz_cn 14 (rx_yn (rt_P sc fm) 59).cls = true := (by decide +kernel : rz_cn 14 (rt_yn 59).cls = true)
theorem ka14_60 : rz_cn 14 (rx_yn (rt_P sc fm) 60).cls = true := (by decide +kernel : rz_cn 14 (rt_yn 60).cls = true)
theorem ka14_61 : rz_cn 14 (rx_yn (rt_P sc fm) 61).cls = true := (by decide +kernel : rz_cn 14 (rt_yn 61).cls = true)
theorem ka14_62 : rz_cn 14 (rx_yn (rt_P sc fm) 62).cls = true := (by decide +kernel : rz_cn 14 (rt_yn 62).cls = true)
theorem ka14_63 : rz_cn 14 (rx_yn (rt_P sc fm) 63).cls = true := (by decide +kernel : rz_cn 14 (rt_yn 63).cls = true)
theorem ka14_64 : rz_cn 14 (rx_yn (rt_P sc fm) 64).cls = true := (by decide +kernel : rz_cn 14 (rt_yn 64).cls = true)
theorem ka14_65 : rz_cn 14 (rx_yn (rt_P sc fm) 65).cls = true := (by decide +kernel : rz_cn 14 (rt_yn 65).cls = true)
theorem ka14_66 : rz_cn 14 (rx_yn (rt_P sc fm) 66).cls = true := (by decide +kernel : rz_cn 14 (rt_yn 66).cls = true)
theorem ka14_67 : rz_cn 14 (rx_yn (rt_P sc fm) 67).cls = true := (by decide +kernel : rz_cn 14 (rt_yn 67).cls = true)
theorem ka14_68 : rz_cn 14 (rx_yn (rt_P sc fm) 68).cls = true := (by decide +kernel : rz_cn 14 (rt_yn 68).cls = true)
theorem ka14_69 : rz_cn 14 (rx_yn (rt_P sc fm) 69).cls = true := (by decide +kernel : rz_cn 14 (rt_yn 69).cls = true)
theorem ka14_71 : rz_cn 14 (rx_yn (rt_P sc fm) 71).cls = true := (by decide +kernel : rz_cn 14 (rt_yn 71).cls = true)
theorem ka14_72 : rz_cn 14 (rx_yn (rt_P sc fm) 72).cls = true := (by decide +kernel : rz_cn 14 (rt_yn 72).cls = true)
theorem ka14_73 : rz_cn 14 (rx_yn (rt_P sc fm) 73).cls = true := (by decide +kernel : rz_cn 14 (rt_yn 73).cls = true)
theorem ka14_74 : rz_cn 14 (rx_yn (rt_P sc fm) 74).cls = true := (by decide +kernel : rz_cn 14 (rt_yn 74).cls = true)
theorem ka14_75 : rz_cn 14 (rx_yn (rt_P sc fm) 75).cls = true := (by decide +kernel : rz_cn 14 (rt_yn 75).cls = true)
theorem ka14_76 : rz_cn 14 (rx_yn (rt_P sc fm) 76).cls = true := (by decide +kernel : rz_cn 14 (rt_yn 76).cls = true)
theorem ka14_77 : rz_cn 14 (rx_yn (rt_P sc fm) 77).cls = true := (by decide +kernel : rz_cn 14 (rt_yn 77).cls = true)
theorem ka14_78 : rz_cn 14 (rx_yn (rt_P sc fm) 78).cls = true := (by decide +kernel : rz_cn 14 (rt_yn 78).cls = true)
theorem ka14_79 : rz_cn 14 (rx_yn (rt_P sc fm) 79).cls = true := (by decide +kernel : rz_cn 14 (rt_yn 79).cls = true)
theorem ka14_80 : rz_cn 14 (rx_yn (rt_P sc fm) 80).cls = true := (by decide +kernel : rz_cn 14 (rt_yn 80).cls = true)
theorem ka14_81 : rz_cn 14 (rx_yn (rt_P sc fm) 81).cls = true := (by decide +kernel : rz_cn 14 (rt_yn 81).cls = true)
theorem ka14_82 : rz_cn 14 (rx_yn (rt_P sc fm) 82).cls = true := (by decide +kernel : rz_cn 14 (rt_yn 82).cls = true)
theorem ka14_83 : rz_cn 14 (rx_yn (rt_P sc fm) 83).cls = true := (by decide +kernel : rz_cn 14 (rt_yn 83).cls = true)
theorem ka14_84 : rz_cn 14 (rx_yn (rt_P sc fm) 84).cls = true := (by decide +kernel : rz_cn 14 (rt_yn 84).cls = true)
theorem ka14_85 : rz_cn 14 (rx_yn (rt_P sc fm) 85).cls = true := (by decide +kernel : rz_cn 14 (rt_yn 85).cls = true)
theorem ka14_86 : rz_cn 14 (rx_yn (rt_P sc fm) 86).cls = true := (by decide +kernel : rz_cn 14 (rt_yn 86).cls = true)
theorem ka14_87 : rz_cn 14 (rx_yn (rt_P sc fm) 87).cls = true := (by decide +kernel : rz_cn 14 (rt_yn 87).cls = true)
theorem ka14_88 : rz_cn 14 (rx_yn (rt_P sc fm) 88).cls = true := (by decide +kernel : rz_cn 14 (rt_yn 88).cls = true)
theorem ka14_89 : rz_cn 14 (rx_yn (rt_P sc fm) 89).cls = true := (by decide +kernel : rz_cn 14 (rt_yn 89).cls = true)
theorem ka15_92 : rz_cn 15 (rx_yn (rt_P sc fm) 92).cls = true := (by decide +kernel : rz_cn 15 (rt_yn 92).cls = true)
theorem ka15_93 : rz_cn 15 (rx_yn (rt_P sc fm) 93).cls = true := (by decide +kernel : rz_cn 15 (rt_yn 93).cls = true)
theorem ka15_95 : rz_cn 15 (rx_yn (rt_P sc fm) 95).cls = true := (by decide +kernel : rz_cn 15 (rt_yn 95).cls = true)
theorem ka15_96 : rz_cn 15 (rx_yn (rt_P sc fm) 96).cls = true := (by decide +kernel : rz_cn 15 (rt_yn 96).cls = true)
theorem ka15_106 : rz_cn 15 (rx_yn (rt_P sc fm) 106).cls = true := (by decide +kernel : rz_cn 15 (rt_yn 106).cls = true)
theorem ka15_107 : rz_cn 15 (rx_yn (rt_P sc fm) 107).cls = true := (by decide +kernel : rz_cn 15 (rt_yn 107).cls = true)
theorem ka15_114 : rz_cn 15 (rx_yn (rt_P sc fm) 114).cls = true := (by decide +kernel : rz_cn 15 (rt_yn 114).cls = true)
theorem ka15_115 : rz_cn 15 (rx_yn (rt_P sc fm) 115).cls = true := (by decide +kernel : rz_cn 15 (rt_yn 115).cls = true)
theorem ka15_116 : rz_cn 15 (rx_yn (rt_P sc fm) 116).cls = true := (by decide +kernel : rz_cn 15 (rt_yn 116).cls = true)
theorem ka15_117 : rz_cn 15 (rx_yn (rt_P sc fm) 117).cls = true := (by decide +kernel : rz_cn 15 (rt_yn 117).cls = true)
theorem ka15_118 : rz_cn 15 (rx_yn (rt_P sc fm) 118).cls = true := (by decide +kernel : rz_cn 15 (rt_yn 118).cls = true)
theorem ka15_120 : rz_cn 15 (rx_yn (rt_P sc fm) 120).cls = true := (by decide +kernel : rz_cn 15 (rt_yn 120).cls = true)
theorem ka15_121 : rz_cn 15 (rx_yn (rt_P sc fm) 121).cls = true := (by decide +kernel : rz_cn 15 (rt_yn 121).cls = true)
theorem ka15_122 : rz_cn 15 (rx_yn (rt_P sc fm) 122).cls = true := (by decide +kernel : rz_cn 15 (rt_yn 122).cls = true)
theorem ka15_123 : rz_cn 15 (rx_yn (rt_P sc fm) 123).cls = true := (by decide +kernel : rz_cn 15 (rt_yn 123).cls = true)
theorem ka15_124 : rz_cn 15 (rx_yn (rt_P sc fm) 124).cls = true := (by decide +kernel : rz_cn 15 (rt_yn 124).cls = true)
theorem ka15_125 : rz_cn 15 (rx_yn (rt_P sc fm) 125).cls = true := (by decide +kernel : rz_cn 15 (rt_yn 125).cls = true)
theorem ka15_126 : rz_cn 15 (rx_yn (rt_P sc fm) 126).cls = true := (by decide +kernel : rz_cn 15 (rt_yn 126).cls = true)
theorem ka15_127 : rz_cn 15 (rx_yn (rt_P sc fm) 127).cls = true := (by decide +kernel : rz_cn 15 (rt_yn 127).cls = true)
theorem ka15_128 : rz_cn 15 (rx_yn (rt_P sc fm) 128).cls = true := (by decide +kernel : rz_cn 15 (rt_yn 128).cls = true)
theorem ka15_129 : rz_cn 15 (rx_yn (rt_P sc fm) 129).cls = true := (by decide +kernel : rz_cn 15 (rt_yn 129).cls = true)
theorem ka15_130 : rz_cn 15 (rx_yn (rt_P sc fm) 130).cls = true := (by decide +kernel : rz_cn 15 (rt_yn 130).cls = true)
theorem ka15_131 : rz_cn 15 (rx_yn (rt_P sc fm) 131).cls = true := (by decide +kernel : rz_cn 15 (rt_yn 131).cls = true)
theorem ka15_132 : rz_cn 15 (rx_yn (rt_P sc fm) 132).cls = true := (by decide +kernel : rz_cn 15 (rt_yn 132).cls = true)
theorem ka15_134 : rz_cn 15 (rx_yn (rt_P sc fm) 134).cls = true := (by decide +kernel : rz_cn 15 (rt_yn 134).cls = true)
theorem ka15_135 : rz_cn 15 (rx_yn (rt_P sc fm) 135).cls = true := (by decide +kernel : rz_cn 15 (rt_yn 135).cls = true)
theorem ka15_136 : rz_cn 15 (rx_yn (rt_P sc fm) 136).cls = true := (by decide +kernel : rz_cn 15 (rt_yn 136).cls = true)
theorem ka15_137 : rz_cn 15 (rx_yn (rt_P sc fm) 137).cls = true := (by decide +kernel : rz_cn 15 (rt_yn 137).cls = true)
theorem ka15_139 : rz_cn 15 (rx_yn (rt_P sc fm) 139).cls = true := (by decide +kernel : rz_cn 15 (rt_yn 139).cls = true)
theorem ka15_140 : rz_cn 15 (rx_yn (rt_P sc fm) 140).cls = true := (by decide +kernel : rz_cn 15 (rt_yn 140).cls = true)
theorem ka15_141 : rz_cn 15 (rx_yn (rt_P sc fm) 141).cls = true := (by decide +kernel : rz_cn 15 (rt_yn 141).cls = true)
theorem ka15_142 : rz_cn 15 (rx_yn (rt_P sc fm) 142).cls = true := (by decide +kernel : rz_cn 15 (rt_yn 142).cls = true)
theorem ka15_143 : rz_cn 15 (rx_yn (rt_P sc fm) 143).cls = true := (by decide +kernel : rz_cn 15 (rt_yn 143).cls = true)
theorem ka15_144 : rz_cn 15 (rx_yn (rt_P sc fm) 144).cls = true := (by decide +kernel : rz_cn 15 (rt_yn 144).cls = true)
theorem kh16_11 : rx_ht (rt_P sc fm) 16 3 "java/lang/IllegalArgumentException" = some (11, 2) := (by decide +kernel : rt_ht 16 3 "java/lang/IllegalArgumentException" = some (11, 2))
theorem kh17_9 : rx_ht (rt_P sc fm) 17 3 "java/lang/IllegalStateException" = some (9, 3) := (by decide +kernel : rt_ht 17 3 "java/lang/IllegalStateException" = some (9, 3))
theorem kh17_12 : rx_ht (rt_P sc fm) 17 3 "java/util/NoSuchElementException" = some (12, 3) := (by decide +kernel : rt_ht 17 3 "java/util/NoSuchElementException" = some (12, 3))
theorem kh18_12 : rx_ht (rt_P sc fm) 18 4 "java/lang/IllegalArgumentException" = some (12, 3) := (by decide +kernel : rt_ht 18 4 "java/lang/IllegalArgumentException" = some (12, 3))
theorem kh18_15 : rx_ht (rt_P sc fm) 18 4 "java/lang/IllegalStateException" = some (15, 3) := (by decide +kernel : rt_ht 18 4 "java/lang/IllegalStateException" = some (15, 3))
theorem rt16 : rx_rt (rt_P sc fm) 16 = some .int := (by decide +kernel : rt_rt 16 = some .int)
theorem rt17 : rx_rt (rt_P sc fm) 17 = some .int := (by decide +kernel : rt_rt 17 = some .int)
theorem rt18 : rx_rt (rt_P sc fm) 18 = some .int := (by decide +kernel : rt_rt 18 = some .int)
theorem rt0 : rx_rt (rt_P sc fm) 0 = some .boolean := (by decide +kernel : rt_rt 0 = some .boolean)
/-- the heap, written the other way round -/
theorem hq_sw : hq true x y w = hq false y x w := by
  unfold hq
  have : ∀ (l : List cE) (a : Nat), hqs true x y w a l = hqs false y x w a l := by
    intro l
    induction l with
    | nil => exact fun _ => rfl
    | cons e r ih =>
      intro a
      have e1 : pk true x y w a = pk false y x w a := by
        unfold pk
        by_cases h1 : a < 266
        · rw [if_pos h1, if_pos h1]
          by_cases h2 : a < 174
          · rw [decide_eq_true h2, if_pos rfl, if_neg (by decide)]
          · rw [decide_eq_false h2, if_neg (by decide), if_pos rfl]
        · rw [if_neg h1, if_neg h1]
      show cel ((pk true x y w a).1 a) ((pk true x y w a).2 a) (w.2 a) e :: hqs true x y w (a + 1) r = cel ((pk false y x w a).1 a) ((pk false y x w a).2 a) (w.2 a) e :: hqs false y x w (a + 1) r
      rw [e1, ih]
  exact this _ _
theorem T0_len : rz_T0.length = 267 := by decide +kernel
theorem hq_S : (hq true x y w)[rx_S]? = none := by
  refine List.getElem?_eq_none ?_
  unfold hq
  rw [hqs_len, T0_len]
  exact Nat.le_of_ble_eq_true (by decide +kernel)
theorem hq_S2 : (hq false x y w)[rx_S]? = none := by
  refine List.getElem?_eq_none ?_
  unfold hq
  rw [hqs_len, T0_len]
  exact Nat.le_of_ble_eq_true (by decide +kernel)
theorem T0_0 : rz_T0[0]? = some (.inl (14, [.ref 1, .ref 7, .ref 114, .ref 133, .ref 145, .ref 146, .ref 150, .ref 159, .ref 167, .ref 172])) := by decide +kernel
theorem isa0 {C : String} (h : rz_cn 14 C = true) : rx_isa P (hq true x y w) 0 C = true := dq_isa (b := true) (k := 0) (v := .ref 1) ⟨_, T0_0, rfl, ⟨by decide, by decide⟩⟩ h
theorem T0_174 : rz_T0[174]? = some (.inl (15, [.int 0, .ref 175, .int 0, .ref 176, .int 0, .int 0, .ref 177, .int 0, .ref 178, .ref 179, .ref 180, .int 0, .int 0, .int 0, .int 0, .int 0, .ref 181, .ref 182, .ref 183, .ref 184, .ref 185, .ref 186, .ref 187, .ref 188, .int 0, .ref 189, .ref 190, .ref 191, .ref 192, .ref 193, .ref 194, .ref 195, .ref 196, .ref 197, .int 0, .ref 198, .ref 199, .int 0, .ref 200, .ref 201, .ref 202, .ref 203, .ref 204, .ref 205, .ref 206, .ref 207, .ref 208, .ref 209, .ref 210, .ref 211, .ref 212, .ref 213, .ref 214, .ref 215, .ref 216, .ref 217, .ref 218, .ref 219, .ref 220, .ref 221, .ref 222, .ref 223, .ref 224, .ref 225, .ref 226, .ref 227, .ref 228, .int 0, .long 0, .ref 229, .ref 230, .ref 231, .ref 232, .long 0, .int 0, .ref 233, .int 0, .int 0, .int 0, .long 0, .int 0, .int 0, .int 0, .ref 234, .ref 235, .ref 236, .ref 237, .ref 238, .ref 239, .ref 240, .int 0, .int 0, .ref 241, .ref 242, .ref 243, .ref 244, .ref 245, .int (-1), .ref 246, .ref 247, .ref 248, .int 0, .int 0, .ref 249, .int 0, .int 0, .int 0, .ref 250, .ref 251, .ref 252, .int 0, .int 0, .int 0, .int 0, .ref 253, .ref 254, .ref 255, .ref 256, .ref 257, .ref 258, .ref 259, .int 0, .ref 260, .int 0, .int 0, .int 0, .int 0, .int 0, .int 0, .int 0, .int 0, .int 0, .int 0, .int 0, .int 0, .ref 261, .ref 262, .ref 263, .ref 264, .ref 265])) := by decide +kernel
theorem isa174 {C : String} (h : rz_cn 15 C = true) : rx_isa P (hq false x y w) 174 C = true := dq_isa (b := false) (k := 0) (v := .int 0) ⟨_, T0_174, rfl, ⟨by decide, by decide⟩⟩ h
/-- the law's array -/
theorem T0_266 : rz_T0[266]? = some (.inr (1, 1)) := by decide +kernel
theorem hq_266 : (hq true x y w)[266]? = some (.inl (1, 1, .inr (.inl (w.1.2 266)))) := by
  unfold hq
  rw [hqs_at, T0_266]
  rfl
theorem hq_s266 {k : Int64} {q : Nat} (h0 : q = 0) : (hq true x y w).set 266 (.inl (1, 1, .inr (.inl (vp_updL (w.1.2 266) q k)))) = hq true x y (pL w.1 266 0 k, w.2) := by
  subst h0
  apply List.ext_getElem?
  intro q
  rw [List.getElem?_set]
  by_cases hk : 266 = q
  · subst hk
    have hl : 266 < (hq true x y w).length := (List.getElem?_eq_some_iff.mp (hq_266 (x := x) (y := y) (w := w))).1
    rw [if_pos rfl, if_pos hl, hq_266]
    show some _ = some (Sum.inl (1, 1, Sum.inr (Sum.inl ((pL w.1 266 0 k).2 266))))
    rw [pL_at]
  · rw [if_neg hk]
    unfold hq
    rw [hqs_at, hqs_at, Nat.zero_add]
    unfold pk
    by_cases h3 : q < 266
    · rw [if_pos h3, if_pos h3]
    · rw [if_neg h3, if_neg h3]
      rw [show (pL w.1 266 0 k).2 q = w.1.2 q from pL_ne (fun z => hk z.symm)]
      rfl
theorem pL_266 {k : Int64} : (pL w.1 266 0 k).2 266 0 = k := by
  rw [rL, if_pos ⟨rfl, rfl⟩]
/-- the law's locals -/
def lvK (lv : rx_L) (T : Nat) : Prop := rx_ld lv 0 = some (.ref rx_S) ∧ rx_ld lv 1 = some (.ref 0) ∧ rx_ld lv 2 = some (.ref 174) ∧ rx_ld lv 3 = some (.ref 266) ∧ rx_ld lv 4 = some (.int (nI (6 * T)))
theorem lvK_5 {x : Int32} (h : lvK lv T) : lvK (rx_s1 lv 5 (.int x)) T ∧ rx_ld (rx_s1 lv 5 (.int x)) 5 = some (.int x) := ⟨⟨rx_ld_ne h.1 (by decide) (Or.inl rfl), rx_ld_ne h.2.1 (by decide) (Or.inl rfl), rx_ld_ne h.2.2.1 (by decide) (Or.inl rfl), rx_ld_ne h.2.2.2.1 (by decide) (Or.inl rfl), rx_ld_ne h.2.2.2.2 (by decide) (Or.inl rfl)⟩, rx_ld_self⟩
theorem lvK_6 {x z : Int32} (h : lvK lv T) (h5 : rx_ld lv 5 = some (.int z)) : lvK (rx_s1 lv 6 (.int x)) T ∧ rx_ld (rx_s1 lv 6 (.int x)) 5 = some (.int z) ∧ rx_ld (rx_s1 lv 6 (.int x)) 6 = some (.int x) := ⟨⟨rx_ld_ne h.1 (by decide) (Or.inl rfl), rx_ld_ne h.2.1 (by decide) (Or.inl rfl), rx_ld_ne h.2.2.1 (by decide) (Or.inl rfl), rx_ld_ne h.2.2.2.1 (by decide) (Or.inl rfl), rx_ld_ne h.2.2.2.2 (by decide) (Or.inl rfl)⟩, rx_ld_ne h5 (by decide) (Or.inl rfl), rx_ld_self⟩
theorem lvK_4 (h : lvK lv T) : lvK (rx_s1 lv 4 (.int (nI (6 * T + 6)))) (T + 1) := ⟨rx_ld_ne h.1 (by decide) (Or.inl rfl), rx_ld_ne h.2.1 (by decide) (Or.inl rfl), rx_ld_ne h.2.2.1 (by decide) (Or.inl rfl), rx_ld_ne h.2.2.2.1 (by decide) (Or.inl rfl), by
  rw [rx_ld_self]
  exact congrArg (fun z => some (Value.int (nI z))) (by omega)⟩
/-- the script -/
theorem sc_in (h : 6 * T + 6 ≤ N) (hN : N ≤ 3072) (hj : j < 6) : ¬ (nI (6 * T + j) < 0 ∨ N ≤ (nI (6 * T + j)).toNatClampNeg) := by
  rw [show (nI (6 * T + j)).toNatClampNeg = 6 * T + j from ix_n (by omega)]
  intro z
  rcases z with z | z
  · exact nI_pos (by omega) z
  · omega
theorem sc_x (h : 6 * T + 6 ≤ N) (hN : N ≤ 3072) (hj : j < 6) : xs (nI (6 * T + j)).toNatClampNeg = xs (6 * T + j) := by
  rw [show (nI (6 * T + j)).toNatClampNeg = 6 * T + j from ix_n (by omega)]
theorem lp_le (hN : N ≤ 3072) (h : 6 * T + 6 ≤ N) : ¬ nI N - 6 < nI (6 * T) := by
  rw [show nI N - 6 = nI (N - 6) from pk_sub (b := 6) (by omega)]
  exact Int32.not_lt.mpr (nI_le (by omega) (by omega))
theorem lp_gt (hN : N ≤ 3072) (hT : T ≤ 512) (h : N < 6 * T + 6) : nI N - 6 < nI (6 * T) := by
  by_cases e : 6 ≤ N
  · rw [show nI N - 6 = nI (N - 6) from pk_sub (b := 6) e]
    exact nI_lt (by omega) (by omega)
  · have hneg : nI N - 6 < 0 := by
      have : N = 0 ∨ N = 1 ∨ N = 2 ∨ N = 3 ∨ N = 4 ∨ N = 5 := by omega
      rcases this with rfl | rfl | rfl | rfl | rfl | rfl <;> decide
    exact Int32.lt_of_lt_of_le hneg (nI_pos' (by omega))
def lpQ : ((Option Value) ⊕ String) → List va_E → Prop := fun o _ => o = .inl (some (.int 1))
end LPIS
