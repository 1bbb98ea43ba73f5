/-! by program: words and rooms of the law -/
set_option maxRecDepth 100000 in
theorem mw_31 : Cond.initialized "CutShearsLaw" ∈ kt_G := kt_m 31 (by decide +kernel) (by decide +kernel)
set_option maxRecDepth 100000 in
theorem mw_46 : Cond.classLink "CutShearsLaw" 8 "CutShears" ∈ kt_G := kt_m 46 (by decide +kernel) (by decide +kernel)
set_option maxRecDepth 100000 in
theorem mw_47 : Cond.instantiable "CutShears" 4 ∈ kt_G := kt_m 47 (by decide +kernel) (by decide +kernel)
set_option maxRecDepth 100000 in
theorem mw_48 : Cond.methodLink "CutShearsLaw" 62 ⟨"CutShears", "<init>", "()V"⟩ ∈ kt_G := kt_m 48 (by decide +kernel) (by decide +kernel)
set_option maxRecDepth 100000 in
theorem mw_49 : Cond.instanceMethod ⟨"CutShears", "<init>", "()V"⟩ ∈ kt_G := kt_m 49 (by decide +kernel) (by decide +kernel)
set_option maxRecDepth 100000 in
theorem mw_50 : Cond.code ⟨"CutShears", "<init>", "()V"⟩ prog_1_method_1_code 1 none ∈ kt_G := kt_m 50 rfl rfl
set_option maxRecDepth 100000 in
theorem mw_199 : Cond.methodLink "CutShearsLaw" 86 ⟨"CutShears", "pieces", "()I"⟩ ∈ kt_G := kt_m 199 (by decide +kernel) (by decide +kernel)
set_option maxRecDepth 100000 in
theorem mw_200 : Cond.instanceMethod ⟨"CutShears", "pieces", "()I"⟩ ∈ kt_G := kt_m 200 (by decide +kernel) (by decide +kernel)
set_option maxRecDepth 100000 in
theorem mw_201 : Cond.selects "CutShears" ⟨"CutShears", "pieces", "()I"⟩ ⟨"CutShears", "pieces", "()I"⟩ ∈ kt_G := kt_m 201 (by decide +kernel) (by decide +kernel)
set_option maxRecDepth 100000 in
theorem mw_202 : Cond.code ⟨"CutShears", "pieces", "()I"⟩ prog_1_method_6_code 1 (some .int) ∈ kt_G := kt_m 202 rfl rfl
set_option maxRecDepth 100000 in
theorem mw_203 : Cond.methodLink "CutShearsLaw" 94 ⟨"CutShears", "loss", "()I"⟩ ∈ kt_G := kt_m 203 (by decide +kernel) (by decide +kernel)
set_option maxRecDepth 100000 in
theorem mw_204 : Cond.instanceMethod ⟨"CutShears", "loss", "()I"⟩ ∈ kt_G := kt_m 204 (by decide +kernel) (by decide +kernel)
set_option maxRecDepth 100000 in
theorem mw_205 : Cond.selects "CutShears" ⟨"CutShears", "loss", "()I"⟩ ⟨"CutShears", "loss", "()I"⟩ ∈ kt_G := kt_m 205 (by decide +kernel) (by decide +kernel)
set_option maxRecDepth 100000 in
theorem mw_206 : Cond.code ⟨"CutShears", "loss", "()I"⟩ prog_1_method_8_code 1 (some .int) ∈ kt_G := kt_m 206 rfl rfl
set_option maxRecDepth 100000 in
theorem mw_207 : Cond.methodLink "CutShearsLaw" 66 ⟨"CutShearsLaw", "want", "(LCutShears;III[J)I"⟩ ∈ kt_G := kt_m 207 (by decide +kernel) (by decide +kernel)
set_option maxRecDepth 100000 in
theorem mw_208 : Cond.static ⟨"CutShearsLaw", "want", "(LCutShears;III[J)I"⟩ ∈ kt_G := kt_m 208 (by decide +kernel) (by decide +kernel)
set_option maxRecDepth 100000 in
theorem mw_209 : Cond.codeWith ⟨"CutShearsLaw", "want", "(LCutShears;III[J)I"⟩ method_3_code 6 (some .int) [(0, 12, 15, 13), (0, 12, 19, 15)] ∈ kt_G := kt_m 209 rfl rfl
set_option maxRecDepth 100000 in
theorem mw_210 : Cond.classLink "CutShearsLaw" 13 "java/lang/IllegalArgumentException" ∈ kt_G := kt_m 210 (by decide +kernel) (by decide +kernel)
set_option maxRecDepth 100000 in
theorem mw_211 : Cond.classLink "CutShearsLaw" 15 "java/lang/UnsupportedOperationException" ∈ kt_G := kt_m 211 (by decide +kernel) (by decide +kernel)
set_option maxRecDepth 100000 in
theorem mw_212 : Cond.methodLink "CutShearsLaw" 7 ⟨"CutShears", "want", "(III)I"⟩ ∈ kt_G := kt_m 212 (by decide +kernel) (by decide +kernel)
set_option maxRecDepth 100000 in
theorem mw_213 : Cond.instanceMethod ⟨"CutShears", "want", "(III)I"⟩ ∈ kt_G := kt_m 213 (by decide +kernel) (by decide +kernel)
set_option maxRecDepth 100000 in
theorem mw_214 : Cond.selects "CutShears" ⟨"CutShears", "want", "(III)I"⟩ ⟨"CutShears", "want", "(III)I"⟩ ∈ kt_G := kt_m 214 (by decide +kernel) (by decide +kernel)
set_option maxRecDepth 100000 in
theorem mw_215 : Cond.code ⟨"CutShears", "want", "(III)I"⟩ prog_1_method_2_code 5 (some .int) ∈ kt_G := kt_m 215 rfl rfl
set_option maxRecDepth 100000 in
theorem mw_333 : Cond.methodLink "CutShearsLaw" 75 ⟨"CutShearsLaw", "bar", "(LCutShears;II)I"⟩ ∈ kt_G := kt_m 333 (by decide +kernel) (by decide +kernel)
set_option maxRecDepth 100000 in
theorem mw_334 : Cond.static ⟨"CutShearsLaw", "bar", "(LCutShears;II)I"⟩ ∈ kt_G := kt_m 334 (by decide +kernel) (by decide +kernel)
set_option maxRecDepth 100000 in
theorem mw_335 : Cond.codeWith ⟨"CutShearsLaw", "bar", "(LCutShears;II)I"⟩ method_4_code 4 (some .int) [(0, 6, 9, 13)] ∈ kt_G := kt_m 335 rfl rfl
set_option maxRecDepth 100000 in
theorem mw_336 : Cond.methodLink "CutShearsLaw" 17 ⟨"CutShears", "bar", "(II)V"⟩ ∈ kt_G := kt_m 336 (by decide +kernel) (by decide +kernel)
set_option maxRecDepth 100000 in
theorem mw_337 : Cond.instanceMethod ⟨"CutShears", "bar", "(II)V"⟩ ∈ kt_G := kt_m 337 (by decide +kernel) (by decide +kernel)
set_option maxRecDepth 100000 in
theorem mw_338 : Cond.selects "CutShears" ⟨"CutShears", "bar", "(II)V"⟩ ⟨"CutShears", "bar", "(II)V"⟩ ∈ kt_G := kt_m 338 (by decide +kernel) (by decide +kernel)
set_option maxRecDepth 100000 in
theorem mw_339 : Cond.code ⟨"CutShears", "bar", "(II)V"⟩ prog_1_method_3_code 3 none ∈ kt_G := kt_m 339 rfl rfl
set_option maxRecDepth 100000 in
theorem mw_344 : Cond.methodLink "CutShearsLaw" 79 ⟨"CutShearsLaw", "crop", "(LCutShears;II)I"⟩ ∈ kt_G := kt_m 344 (by decide +kernel) (by decide +kernel)
set_option maxRecDepth 100000 in
theorem mw_345 : Cond.static ⟨"CutShearsLaw", "crop", "(LCutShears;II)I"⟩ ∈ kt_G := kt_m 345 (by decide +kernel) (by decide +kernel)
set_option maxRecDepth 100000 in
theorem mw_346 : Cond.codeWith ⟨"CutShearsLaw", "crop", "(LCutShears;II)I"⟩ method_5_code 4 (some .int) [(0, 6, 9, 13), (0, 6, 12, 15)] ∈ kt_G := kt_m 346 rfl rfl
set_option maxRecDepth 100000 in
theorem mw_347 : Cond.methodLink "CutShearsLaw" 21 ⟨"CutShears", "crop", "(II)V"⟩ ∈ kt_G := kt_m 347 (by decide +kernel) (by decide +kernel)
set_option maxRecDepth 100000 in
theorem mw_348 : Cond.instanceMethod ⟨"CutShears", "crop", "(II)V"⟩ ∈ kt_G := kt_m 348 (by decide +kernel) (by decide +kernel)
set_option maxRecDepth 100000 in
theorem mw_349 : Cond.selects "CutShears" ⟨"CutShears", "crop", "(II)V"⟩ ⟨"CutShears", "crop", "(II)V"⟩ ∈ kt_G := kt_m 349 (by decide +kernel) (by decide +kernel)
set_option maxRecDepth 100000 in
theorem mw_350 : Cond.code ⟨"CutShears", "crop", "(II)V"⟩ prog_1_method_4_code 3 none ∈ kt_G := kt_m 350 rfl rfl
set_option maxRecDepth 100000 in
theorem mw_363 : Cond.methodLink "CutShearsLaw" 82 ⟨"CutShearsLaw", "known", "(LCutShears;I)I"⟩ ∈ kt_G := kt_m 363 (by decide +kernel) (by decide +kernel)
set_option maxRecDepth 100000 in
theorem mw_364 : Cond.static ⟨"CutShearsLaw", "known", "(LCutShears;I)I"⟩ ∈ kt_G := kt_m 364 (by decide +kernel) (by decide +kernel)
set_option maxRecDepth 100000 in
theorem mw_365 : Cond.codeWith ⟨"CutShearsLaw", "known", "(LCutShears;I)I"⟩ method_6_code 3 (some .int) [(0, 5, 8, 13), (0, 5, 11, 15)] ∈ kt_G := kt_m 365 rfl rfl
set_option maxRecDepth 100000 in
theorem mw_366 : Cond.methodLink "CutShearsLaw" 24 ⟨"CutShears", "known", "(I)V"⟩ ∈ kt_G := kt_m 366 (by decide +kernel) (by decide +kernel)
set_option maxRecDepth 100000 in
theorem mw_367 : Cond.instanceMethod ⟨"CutShears", "known", "(I)V"⟩ ∈ kt_G := kt_m 367 (by decide +kernel) (by decide +kernel)
set_option maxRecDepth 100000 in
theorem mw_368 : Cond.selects "CutShears" ⟨"CutShears", "known", "(I)V"⟩ ⟨"CutShears", "known", "(I)V"⟩ ∈ kt_G := kt_m 368 (by decide +kernel) (by decide +kernel)
set_option maxRecDepth 100000 in
theorem mw_369 : Cond.code ⟨"CutShears", "known", "(I)V"⟩ prog_1_method_5_code 2 none ∈ kt_G := kt_m 369 rfl rfl
set_option maxRecDepth 100000 in
theorem mw_374 : Cond.methodLink "CutShearsLaw" 90 ⟨"CutShearsLaw", "piece", "(LCutShears;II[J)I"⟩ ∈ kt_G := kt_m 374 (by decide +kernel) (by decide +kernel)
set_option maxRecDepth 100000 in
theorem mw_375 : Cond.static ⟨"CutShearsLaw", "piece", "(LCutShears;II[J)I"⟩ ∈ kt_G := kt_m 375 (by decide +kernel) (by decide +kernel)
set_option maxRecDepth 100000 in
theorem mw_376 : Cond.codeWith ⟨"CutShearsLaw", "piece", "(LCutShears;II[J)I"⟩ method_7_code 5 (some .int) [(0, 10, 13, 32)] ∈ kt_G := kt_m 376 rfl rfl
set_option maxRecDepth 100000 in
theorem mw_377 : Cond.classLink "CutShearsLaw" 32 "java/lang/IndexOutOfBoundsException" ∈ kt_G := kt_m 377 (by decide +kernel) (by decide +kernel)
set_option maxRecDepth 100000 in
theorem mw_378 : Cond.methodLink "CutShearsLaw" 28 ⟨"CutShears", "piece", "(II)I"⟩ ∈ kt_G := kt_m 378 (by decide +kernel) (by decide +kernel)
set_option maxRecDepth 100000 in
theorem mw_379 : Cond.instanceMethod ⟨"CutShears", "piece", "(II)I"⟩ ∈ kt_G := kt_m 379 (by decide +kernel) (by decide +kernel)
set_option maxRecDepth 100000 in
theorem mw_380 : Cond.selects "CutShears" ⟨"CutShears", "piece", "(II)I"⟩ ⟨"CutShears", "piece", "(II)I"⟩ ∈ kt_G := kt_m 380 (by decide +kernel) (by decide +kernel)
set_option maxRecDepth 100000 in
theorem mw_381 : Cond.code ⟨"CutShears", "piece", "(II)I"⟩ prog_1_method_7_code 3 (some .int) ∈ kt_G := kt_m 381 rfl rfl
set_option maxRecDepth 100000 in
theorem mw_413 : Cond.methodLink "CutShearsLaw" 98 ⟨"CutShearsLaw", "cut", "(LCutShears;[J)I"⟩ ∈ kt_G := kt_m 413 (by decide +kernel) (by decide +kernel)
set_option maxRecDepth 100000 in
theorem mw_414 : Cond.static ⟨"CutShearsLaw", "cut", "(LCutShears;[J)I"⟩ ∈ kt_G := kt_m 414 (by decide +kernel) (by decide +kernel)
set_option maxRecDepth 100000 in
theorem mw_415 : Cond.codeWith ⟨"CutShearsLaw", "cut", "(LCutShears;[J)I"⟩ method_8_code 3 (some .int) [(0, 8, 11, 38), (0, 8, 14, 15)] ∈ kt_G := kt_m 415 rfl rfl
set_option maxRecDepth 100000 in
theorem mw_416 : Cond.classLink "CutShearsLaw" 38 "java/lang/IllegalStateException" ∈ kt_G := kt_m 416 (by decide +kernel) (by decide +kernel)
set_option maxRecDepth 100000 in
theorem mw_417 : Cond.methodLink "CutShearsLaw" 34 ⟨"CutShears", "cut", "()I"⟩ ∈ kt_G := kt_m 417 (by decide +kernel) (by decide +kernel)
set_option maxRecDepth 100000 in
theorem mw_418 : Cond.instanceMethod ⟨"CutShears", "cut", "()I"⟩ ∈ kt_G := kt_m 418 (by decide +kernel) (by decide +kernel)
set_option maxRecDepth 100000 in
theorem mw_419 : Cond.selects "CutShears" ⟨"CutShears", "cut", "()I"⟩ ⟨"CutShears", "cut", "()I"⟩ ∈ kt_G := kt_m 419 (by decide +kernel) (by decide +kernel)
set_option maxRecDepth 100000 in
theorem mw_420 : Cond.code ⟨"CutShears", "cut", "()I"⟩ prog_1_method_9_code 4 (some .int) ∈ kt_G := kt_m 420 rfl rfl
set_option maxRecDepth 100000 in
theorem mw_453 : Cond.methodLink "CutShearsLaw" 102 ⟨"CutShearsLaw", "bed", "(LCutShears;II)I"⟩ ∈ kt_G := kt_m 453 (by decide +kernel) (by decide +kernel)
set_option maxRecDepth 100000 in
theorem mw_454 : Cond.static ⟨"CutShearsLaw", "bed", "(LCutShears;II)I"⟩ ∈ kt_G := kt_m 454 (by decide +kernel) (by decide +kernel)
set_option maxRecDepth 100000 in
theorem mw_455 : Cond.codeWith ⟨"CutShearsLaw", "bed", "(LCutShears;II)I"⟩ method_9_code 4 (some .int) [(0, 6, 9, 38), (0, 6, 12, 13)] ∈ kt_G := kt_m 455 rfl rfl
set_option maxRecDepth 100000 in
theorem mw_456 : Cond.methodLink "CutShearsLaw" 40 ⟨"CutShears", "bed", "(II)V"⟩ ∈ kt_G := kt_m 456 (by decide +kernel) (by decide +kernel)
set_option maxRecDepth 100000 in
theorem mw_457 : Cond.instanceMethod ⟨"CutShears", "bed", "(II)V"⟩ ∈ kt_G := kt_m 457 (by decide +kernel) (by decide +kernel)
set_option maxRecDepth 100000 in
theorem mw_458 : Cond.selects "CutShears" ⟨"CutShears", "bed", "(II)V"⟩ ⟨"CutShears", "bed", "(II)V"⟩ ∈ kt_G := kt_m 458 (by decide +kernel) (by decide +kernel)
set_option maxRecDepth 100000 in
theorem mw_459 : Cond.code ⟨"CutShears", "bed", "(II)V"⟩ prog_1_method_10_code 3 none ∈ kt_G := kt_m 459 rfl rfl
set_option maxRecDepth 100000 in
theorem mw_461 : Cond.methodLink "CutShearsLaw" 105 ⟨"CutShearsLaw", "at", "(LCutShears;I[J)I"⟩ ∈ kt_G := kt_m 461 (by decide +kernel) (by decide +kernel)
set_option maxRecDepth 100000 in
theorem mw_462 : Cond.static ⟨"CutShearsLaw", "at", "(LCutShears;I[J)I"⟩ ∈ kt_G := kt_m 462 (by decide +kernel) (by decide +kernel)
set_option maxRecDepth 100000 in
theorem mw_463 : Cond.codeWith ⟨"CutShearsLaw", "at", "(LCutShears;I[J)I"⟩ method_10_code 4 (some .int) [(0, 9, 12, 32)] ∈ kt_G := kt_m 463 rfl rfl
set_option maxRecDepth 100000 in
theorem mw_464 : Cond.methodLink "CutShearsLaw" 43 ⟨"CutShears", "at", "(I)I"⟩ ∈ kt_G := kt_m 464 (by decide +kernel) (by decide +kernel)
set_option maxRecDepth 100000 in
theorem mw_465 : Cond.instanceMethod ⟨"CutShears", "at", "(I)I"⟩ ∈ kt_G := kt_m 465 (by decide +kernel) (by decide +kernel)
set_option maxRecDepth 100000 in
theorem mw_466 : Cond.selects "CutShears" ⟨"CutShears", "at", "(I)I"⟩ ⟨"CutShears", "at", "(I)I"⟩ ∈ kt_G := kt_m 466 (by decide +kernel) (by decide +kernel)
set_option maxRecDepth 100000 in
theorem mw_467 : Cond.code ⟨"CutShears", "at", "(I)I"⟩ prog_1_method_11_code 2 (some .int) ∈ kt_G := kt_m 467 rfl rfl
set_option maxRecDepth 100000 in
theorem mw_473 : Cond.methodLink "CutShearsLaw" 109 ⟨"CutShearsLaw", "bundle", "(LCutShears;II[J)I"⟩ ∈ kt_G := kt_m 473 (by decide +kernel) (by decide +kernel)
set_option maxRecDepth 100000 in
theorem mw_474 : Cond.static ⟨"CutShearsLaw", "bundle", "(LCutShears;II[J)I"⟩ ∈ kt_G := kt_m 474 (by decide +kernel) (by decide +kernel)
set_option maxRecDepth 100000 in
theorem mw_475 : Cond.codeWith ⟨"CutShearsLaw", "bundle", "(LCutShears;II[J)I"⟩ method_11_code 5 (some .int) [(0, 10, 13, 32), (0, 10, 17, 13), (0, 10, 21, 15)] ∈ kt_G := kt_m 475 rfl rfl
set_option maxRecDepth 100000 in
theorem mw_476 : Cond.methodLink "CutShearsLaw" 47 ⟨"CutShears", "bundle", "(II)I"⟩ ∈ kt_G := kt_m 476 (by decide +kernel) (by decide +kernel)
set_option maxRecDepth 100000 in
theorem mw_477 : Cond.instanceMethod ⟨"CutShears", "bundle", "(II)I"⟩ ∈ kt_G := kt_m 477 (by decide +kernel) (by decide +kernel)
set_option maxRecDepth 100000 in
theorem mw_478 : Cond.selects "CutShears" ⟨"CutShears", "bundle", "(II)I"⟩ ⟨"CutShears", "bundle", "(II)I"⟩ ∈ kt_G := kt_m 478 (by decide +kernel) (by decide +kernel)
set_option maxRecDepth 100000 in
theorem mw_479 : Cond.code ⟨"CutShears", "bundle", "(II)I"⟩ prog_1_method_12_code 3 (some .int) ∈ kt_G := kt_m 479 rfl rfl
set_option maxRecDepth 100000 in
theorem mw_497 : Cond.methodLink "CutShearsLaw" 112 ⟨"CutShearsLaw", "cutAt", "(LCutShears;II[J)I"⟩ ∈ kt_G := kt_m 497 (by decide +kernel) (by decide +kernel)
set_option maxRecDepth 100000 in
theorem mw_498 : Cond.static ⟨"CutShearsLaw", "cutAt", "(LCutShears;II[J)I"⟩ ∈ kt_G := kt_m 498 (by decide +kernel) (by decide +kernel)
set_option maxRecDepth 100000 in
theorem mw_499 : Cond.codeWith ⟨"CutShearsLaw", "cutAt", "(LCutShears;II[J)I"⟩ method_12_code 5 (some .int) [(0, 10, 13, 32)] ∈ kt_G := kt_m 499 rfl rfl
set_option maxRecDepth 100000 in
theorem mw_500 : Cond.methodLink "CutShearsLaw" 50 ⟨"CutShears", "cutAt", "(II)I"⟩ ∈ kt_G := kt_m 500 (by decide +kernel) (by decide +kernel)
set_option maxRecDepth 100000 in
theorem mw_501 : Cond.instanceMethod ⟨"CutShears", "cutAt", "(II)I"⟩ ∈ kt_G := kt_m 501 (by decide +kernel) (by decide +kernel)
set_option maxRecDepth 100000 in
theorem mw_502 : Cond.selects "CutShears" ⟨"CutShears", "cutAt", "(II)I"⟩ ⟨"CutShears", "cutAt", "(II)I"⟩ ∈ kt_G := kt_m 502 (by decide +kernel) (by decide +kernel)
set_option maxRecDepth 100000 in
theorem mw_503 : Cond.code ⟨"CutShears", "cutAt", "(II)I"⟩ prog_1_method_13_code 3 (some .int) ∈ kt_G := kt_m 503 rfl rfl
set_option maxRecDepth 100000 in
theorem mw_509 : Cond.methodLink "CutShearsLaw" 115 ⟨"CutShearsLaw", "blade", "(LCutShears;III[J)I"⟩ ∈ kt_G := kt_m 509 (by decide +kernel) (by decide +kernel)
set_option maxRecDepth 100000 in
theorem mw_510 : Cond.static ⟨"CutShearsLaw", "blade", "(LCutShears;III[J)I"⟩ ∈ kt_G := kt_m 510 (by decide +kernel) (by decide +kernel)
set_option maxRecDepth 100000 in
theorem mw_511 : Cond.codeWith ⟨"CutShearsLaw", "blade", "(LCutShears;III[J)I"⟩ method_13_code 6 (some .int) [(0, 12, 15, 32), (0, 12, 19, 13)] ∈ kt_G := kt_m 511 rfl rfl
set_option maxRecDepth 100000 in
theorem mw_512 : Cond.methodLink "CutShearsLaw" 53 ⟨"CutShears", "blade", "(III)I"⟩ ∈ kt_G := kt_m 512 (by decide +kernel) (by decide +kernel)
set_option maxRecDepth 100000 in
theorem mw_513 : Cond.instanceMethod ⟨"CutShears", "blade", "(III)I"⟩ ∈ kt_G := kt_m 513 (by decide +kernel) (by decide +kernel)
set_option maxRecDepth 100000 in
theorem mw_514 : Cond.selects "CutShears" ⟨"CutShears", "blade", "(III)I"⟩ ⟨"CutShears", "blade", "(III)I"⟩ ∈ kt_G := kt_m 514 (by decide +kernel) (by decide +kernel)
set_option maxRecDepth 100000 in
theorem mw_515 : Cond.code ⟨"CutShears", "blade", "(III)I"⟩ prog_1_method_14_code 5 (some .int) ∈ kt_G := kt_m 515 rfl rfl
set_option maxRecDepth 100000 in
theorem mw_519 : Cond.methodLink "CutShearsLaw" 118 ⟨"CutShearsLaw", "sum", "(LCutShears;I[J)I"⟩ ∈ kt_G := kt_m 519 (by decide +kernel) (by decide +kernel)
set_option maxRecDepth 100000 in
theorem mw_520 : Cond.static ⟨"CutShearsLaw", "sum", "(LCutShears;I[J)I"⟩ ∈ kt_G := kt_m 520 (by decide +kernel) (by decide +kernel)
set_option maxRecDepth 100000 in
theorem mw_521 : Cond.codeWith ⟨"CutShearsLaw", "sum", "(LCutShears;I[J)I"⟩ method_14_code 4 (some .int) [(0, 9, 12, 32)] ∈ kt_G := kt_m 521 rfl rfl
set_option maxRecDepth 100000 in
theorem mw_522 : Cond.methodLink "CutShearsLaw" 56 ⟨"CutShears", "sum", "(I)I"⟩ ∈ kt_G := kt_m 522 (by decide +kernel) (by decide +kernel)
set_option maxRecDepth 100000 in
theorem mw_523 : Cond.instanceMethod ⟨"CutShears", "sum", "(I)I"⟩ ∈ kt_G := kt_m 523 (by decide +kernel) (by decide +kernel)
set_option maxRecDepth 100000 in
theorem mw_524 : Cond.selects "CutShears" ⟨"CutShears", "sum", "(I)I"⟩ ⟨"CutShears", "sum", "(I)I"⟩ ∈ kt_G := kt_m 524 (by decide +kernel) (by decide +kernel)
set_option maxRecDepth 100000 in
theorem mw_525 : Cond.code ⟨"CutShears", "sum", "(I)I"⟩ prog_1_method_15_code 2 (some .int) ∈ kt_G := kt_m 525 rfl rfl
set_option maxRecDepth 100000 in
theorem mw_530 : Cond.methodLink "CutShearsLaw" 121 ⟨"CutShearsLaw", "side", "(LCutShears;I[J)I"⟩ ∈ kt_G := kt_m 530 (by decide +kernel) (by decide +kernel)
set_option maxRecDepth 100000 in
theorem mw_531 : Cond.static ⟨"CutShearsLaw", "side", "(LCutShears;I[J)I"⟩ ∈ kt_G := kt_m 531 (by decide +kernel) (by decide +kernel)
set_option maxRecDepth 100000 in
theorem mw_532 : Cond.codeWith ⟨"CutShearsLaw", "side", "(LCutShears;I[J)I"⟩ method_15_code 4 (some .int) [(0, 9, 12, 32)] ∈ kt_G := kt_m 532 rfl rfl
set_option maxRecDepth 100000 in
theorem mw_533 : Cond.methodLink "CutShearsLaw" 59 ⟨"CutShears", "side", "(I)I"⟩ ∈ kt_G := kt_m 533 (by decide +kernel) (by decide +kernel)
set_option maxRecDepth 100000 in
theorem mw_534 : Cond.instanceMethod ⟨"CutShears", "side", "(I)I"⟩ ∈ kt_G := kt_m 534 (by decide +kernel) (by decide +kernel)
set_option maxRecDepth 100000 in
theorem mw_535 : Cond.selects "CutShears" ⟨"CutShears", "side", "(I)I"⟩ ⟨"CutShears", "side", "(I)I"⟩ ∈ kt_G := kt_m 535 (by decide +kernel) (by decide +kernel)
set_option maxRecDepth 100000 in
theorem mw_536 : Cond.code ⟨"CutShears", "side", "(I)I"⟩ prog_1_method_16_code 2 (some .int) ∈ kt_G := kt_m 536 rfl rfl
set_option maxRecDepth 100000 in
theorem mw_542 : Cond.classLink "CutShearsLaw" 63 "CutShearsModel" ∈ kt_G := kt_m 542 (by decide +kernel) (by decide +kernel)
set_option maxRecDepth 100000 in
theorem mw_543 : Cond.instantiable "CutShearsModel" 27 ∈ kt_G := kt_m 543 (by decide +kernel) (by decide +kernel)
set_option maxRecDepth 100000 in
theorem mw_544 : Cond.methodLink "CutShearsLaw" 65 ⟨"CutShearsModel", "<init>", "()V"⟩ ∈ kt_G := kt_m 544 (by decide +kernel) (by decide +kernel)
set_option maxRecDepth 100000 in
theorem mw_545 : Cond.instanceMethod ⟨"CutShearsModel", "<init>", "()V"⟩ ∈ kt_G := kt_m 545 (by decide +kernel) (by decide +kernel)
set_option maxRecDepth 100000 in
theorem mw_546 : Cond.code ⟨"CutShearsModel", "<init>", "()V"⟩ prog_7_method_1_code 1 none ∈ kt_G := kt_m 546 rfl rfl
set_option maxRecDepth 100000 in
theorem mw_631 : Cond.methodLink "CutShearsLaw" 72 ⟨"CutShearsModel", "thrown", "()I"⟩ ∈ kt_G := kt_m 631 (by decide +kernel) (by decide +kernel)
set_option maxRecDepth 100000 in
theorem mw_632 : Cond.instanceMethod ⟨"CutShearsModel", "thrown", "()I"⟩ ∈ kt_G := kt_m 632 (by decide +kernel) (by decide +kernel)
set_option maxRecDepth 100000 in
theorem mw_633 : Cond.selects "CutShearsModel" ⟨"CutShearsModel", "thrown", "()I"⟩ ⟨"CutShearsModel", "thrown", "()I"⟩ ∈ kt_G := kt_m 633 (by decide +kernel) (by decide +kernel)
set_option maxRecDepth 100000 in
theorem mw_634 : Cond.code ⟨"CutShearsModel", "thrown", "()I"⟩ prog_7_method_2_code 1 (some .int) ∈ kt_G := kt_m 634 rfl rfl
set_option maxRecDepth 100000 in
theorem mw_635 : Cond.methodLink "CutShearsLaw" 71 ⟨"CutShearsModel", "want", "(III)I"⟩ ∈ kt_G := kt_m 635 (by decide +kernel) (by decide +kernel)
set_option maxRecDepth 100000 in
theorem mw_636 : Cond.instanceMethod ⟨"CutShearsModel", "want", "(III)I"⟩ ∈ kt_G := kt_m 636 (by decide +kernel) (by decide +kernel)
set_option maxRecDepth 100000 in
theorem mw_637 : Cond.selects "CutShearsModel" ⟨"CutShearsModel", "want", "(III)I"⟩ ⟨"CutShearsModel", "want", "(III)I"⟩ ∈ kt_G := kt_m 637 (by decide +kernel) (by decide +kernel)
set_option maxRecDepth 100000 in
theorem mw_638 : Cond.code ⟨"CutShearsModel", "want", "(III)I"⟩ prog_7_method_9_code 4 (some .int) ∈ kt_G := kt_m 638 rfl rfl
set_option maxRecDepth 100000 in
theorem mw_646 : Cond.methodLink "CutShearsLaw" 78 ⟨"CutShearsModel", "bar", "(II)V"⟩ ∈ kt_G := kt_m 646 (by decide +kernel) (by decide +kernel)
set_option maxRecDepth 100000 in
theorem mw_647 : Cond.instanceMethod ⟨"CutShearsModel", "bar", "(II)V"⟩ ∈ kt_G := kt_m 647 (by decide +kernel) (by decide +kernel)
set_option maxRecDepth 100000 in
theorem mw_648 : Cond.selects "CutShearsModel" ⟨"CutShearsModel", "bar", "(II)V"⟩ ⟨"CutShearsModel", "bar", "(II)V"⟩ ∈ kt_G := kt_m 648 (by decide +kernel) (by decide +kernel)
set_option maxRecDepth 100000 in
theorem mw_649 : Cond.code ⟨"CutShearsModel", "bar", "(II)V"⟩ prog_7_method_10_code 3 none ∈ kt_G := kt_m 649 rfl rfl
set_option maxRecDepth 100000 in
theorem mw_650 : Cond.methodLink "CutShearsLaw" 81 ⟨"CutShearsModel", "crop", "(II)V"⟩ ∈ kt_G := kt_m 650 (by decide +kernel) (by decide +kernel)
set_option maxRecDepth 100000 in
theorem mw_651 : Cond.instanceMethod ⟨"CutShearsModel", "crop", "(II)V"⟩ ∈ kt_G := kt_m 651 (by decide +kernel) (by decide +kernel)
set_option maxRecDepth 100000 in
theorem mw_652 : Cond.selects "CutShearsModel" ⟨"CutShearsModel", "crop", "(II)V"⟩ ⟨"CutShearsModel", "crop", "(II)V"⟩ ∈ kt_G := kt_m 652 (by decide +kernel) (by decide +kernel)
set_option maxRecDepth 100000 in
theorem mw_653 : Cond.code ⟨"CutShearsModel", "crop", "(II)V"⟩ prog_7_method_11_code 5 none ∈ kt_G := kt_m 653 rfl rfl
set_option maxRecDepth 100000 in
theorem mw_661 : Cond.methodLink "CutShearsLaw" 85 ⟨"CutShearsModel", "known", "(I)V"⟩ ∈ kt_G := kt_m 661 (by decide +kernel) (by decide +kernel)
set_option maxRecDepth 100000 in
theorem mw_662 : Cond.instanceMethod ⟨"CutShearsModel", "known", "(I)V"⟩ ∈ kt_G := kt_m 662 (by decide +kernel) (by decide +kernel)
set_option maxRecDepth 100000 in
theorem mw_663 : Cond.selects "CutShearsModel" ⟨"CutShearsModel", "known", "(I)V"⟩ ⟨"CutShearsModel", "known", "(I)V"⟩ ∈ kt_G := kt_m 663 (by decide +kernel) (by decide +kernel)
set_option maxRecDepth 100000 in
theorem mw_664 : Cond.code ⟨"CutShearsModel", "known", "(I)V"⟩ prog_7_method_12_code 3 none ∈ kt_G := kt_m 664 rfl rfl
set_option maxRecDepth 100000 in
theorem mw_665 : Cond.methodLink "CutShearsLaw" 89 ⟨"CutShearsModel", "pieces", "()I"⟩ ∈ kt_G := kt_m 665 (by decide +kernel) (by decide +kernel)
set_option maxRecDepth 100000 in
theorem mw_666 : Cond.instanceMethod ⟨"CutShearsModel", "pieces", "()I"⟩ ∈ kt_G := kt_m 666 (by decide +kernel) (by decide +kernel)
set_option maxRecDepth 100000 in
theorem mw_667 : Cond.selects "CutShearsModel" ⟨"CutShearsModel", "pieces", "()I"⟩ ⟨"CutShearsModel", "pieces", "()I"⟩ ∈ kt_G := kt_m 667 (by decide +kernel) (by decide +kernel)
set_option maxRecDepth 100000 in
theorem mw_668 : Cond.code ⟨"CutShearsModel", "pieces", "()I"⟩ prog_7_method_15_code 1 (some .int) ∈ kt_G := kt_m 668 rfl rfl
set_option maxRecDepth 100000 in
theorem mw_681 : Cond.methodLink "CutShearsLaw" 93 ⟨"CutShearsModel", "piece", "(II)I"⟩ ∈ kt_G := kt_m 681 (by decide +kernel) (by decide +kernel)
set_option maxRecDepth 100000 in
theorem mw_682 : Cond.instanceMethod ⟨"CutShearsModel", "piece", "(II)I"⟩ ∈ kt_G := kt_m 682 (by decide +kernel) (by decide +kernel)
set_option maxRecDepth 100000 in
theorem mw_683 : Cond.selects "CutShearsModel" ⟨"CutShearsModel", "piece", "(II)I"⟩ ⟨"CutShearsModel", "piece", "(II)I"⟩ ∈ kt_G := kt_m 683 (by decide +kernel) (by decide +kernel)
set_option maxRecDepth 100000 in
theorem mw_684 : Cond.code ⟨"CutShearsModel", "piece", "(II)I"⟩ prog_7_method_17_code 3 (some .int) ∈ kt_G := kt_m 684 rfl rfl
set_option maxRecDepth 100000 in
theorem mw_689 : Cond.methodLink "CutShearsLaw" 97 ⟨"CutShearsModel", "loss", "()I"⟩ ∈ kt_G := kt_m 689 (by decide +kernel) (by decide +kernel)
set_option maxRecDepth 100000 in
theorem mw_690 : Cond.instanceMethod ⟨"CutShearsModel", "loss", "()I"⟩ ∈ kt_G := kt_m 690 (by decide +kernel) (by decide +kernel)
set_option maxRecDepth 100000 in
theorem mw_691 : Cond.selects "CutShearsModel" ⟨"CutShearsModel", "loss", "()I"⟩ ⟨"CutShearsModel", "loss", "()I"⟩ ∈ kt_G := kt_m 691 (by decide +kernel) (by decide +kernel)
set_option maxRecDepth 100000 in
theorem mw_692 : Cond.code ⟨"CutShearsModel", "loss", "()I"⟩ prog_7_method_18_code 1 (some .int) ∈ kt_G := kt_m 692 rfl rfl
set_option maxRecDepth 100000 in
theorem mw_693 : Cond.methodLink "CutShearsLaw" 101 ⟨"CutShearsModel", "cut", "()I"⟩ ∈ kt_G := kt_m 693 (by decide +kernel) (by decide +kernel)
set_option maxRecDepth 100000 in
theorem mw_694 : Cond.instanceMethod ⟨"CutShearsModel", "cut", "()I"⟩ ∈ kt_G := kt_m 694 (by decide +kernel) (by decide +kernel)
set_option maxRecDepth 100000 in
theorem mw_695 : Cond.selects "CutShearsModel" ⟨"CutShearsModel", "cut", "()I"⟩ ⟨"CutShearsModel", "cut", "()I"⟩ ∈ kt_G := kt_m 695 (by decide +kernel) (by decide +kernel)
set_option maxRecDepth 100000 in
theorem mw_696 : Cond.code ⟨"CutShearsModel", "cut", "()I"⟩ prog_7_method_20_code 3 (some .int) ∈ kt_G := kt_m 696 rfl rfl
set_option maxRecDepth 100000 in
theorem mw_701 : Cond.methodLink "CutShearsLaw" 104 ⟨"CutShearsModel", "bed", "(II)V"⟩ ∈ kt_G := kt_m 701 (by decide +kernel) (by decide +kernel)
set_option maxRecDepth 100000 in
theorem mw_702 : Cond.instanceMethod ⟨"CutShearsModel", "bed", "(II)V"⟩ ∈ kt_G := kt_m 702 (by decide +kernel) (by decide +kernel)
set_option maxRecDepth 100000 in
theorem mw_703 : Cond.selects "CutShearsModel" ⟨"CutShearsModel", "bed", "(II)V"⟩ ⟨"CutShearsModel", "bed", "(II)V"⟩ ∈ kt_G := kt_m 703 (by decide +kernel) (by decide +kernel)
set_option maxRecDepth 100000 in
theorem mw_704 : Cond.code ⟨"CutShearsModel", "bed", "(II)V"⟩ prog_7_method_21_code 5 none ∈ kt_G := kt_m 704 rfl rfl
set_option maxRecDepth 100000 in
theorem mw_705 : Cond.methodLink "CutShearsLaw" 108 ⟨"CutShearsModel", "at", "(I)I"⟩ ∈ kt_G := kt_m 705 (by decide +kernel) (by decide +kernel)
set_option maxRecDepth 100000 in
theorem mw_706 : Cond.instanceMethod ⟨"CutShearsModel", "at", "(I)I"⟩ ∈ kt_G := kt_m 706 (by decide +kernel) (by decide +kernel)
set_option maxRecDepth 100000 in
theorem mw_707 : Cond.selects "CutShearsModel" ⟨"CutShearsModel", "at", "(I)I"⟩ ⟨"CutShearsModel", "at", "(I)I"⟩ ∈ kt_G := kt_m 707 (by decide +kernel) (by decide +kernel)
set_option maxRecDepth 100000 in
theorem mw_708 : Cond.code ⟨"CutShearsModel", "at", "(I)I"⟩ prog_7_method_22_code 2 (some .int) ∈ kt_G := kt_m 708 rfl rfl
set_option maxRecDepth 100000 in
theorem mw_709 : Cond.methodLink "CutShearsLaw" 111 ⟨"CutShearsModel", "bundle", "(II)I"⟩ ∈ kt_G := kt_m 709 (by decide +kernel) (by decide +kernel)
set_option maxRecDepth 100000 in
theorem mw_710 : Cond.instanceMethod ⟨"CutShearsModel", "bundle", "(II)I"⟩ ∈ kt_G := kt_m 710 (by decide +kernel) (by decide +kernel)
set_option maxRecDepth 100000 in
theorem mw_711 : Cond.selects "CutShearsModel" ⟨"CutShearsModel", "bundle", "(II)I"⟩ ⟨"CutShearsModel", "bundle", "(II)I"⟩ ∈ kt_G := kt_m 711 (by decide +kernel) (by decide +kernel)
set_option maxRecDepth 100000 in
theorem mw_712 : Cond.code ⟨"CutShearsModel", "bundle", "(II)I"⟩ prog_7_method_23_code 6 (some .int) ∈ kt_G := kt_m 712 rfl rfl
set_option maxRecDepth 100000 in
theorem mw_717 : Cond.methodLink "CutShearsLaw" 114 ⟨"CutShearsModel", "cutAt", "(II)I"⟩ ∈ kt_G := kt_m 717 (by decide +kernel) (by decide +kernel)
set_option maxRecDepth 100000 in
theorem mw_718 : Cond.instanceMethod ⟨"CutShearsModel", "cutAt", "(II)I"⟩ ∈ kt_G := kt_m 718 (by decide +kernel) (by decide +kernel)
set_option maxRecDepth 100000 in
theorem mw_719 : Cond.selects "CutShearsModel" ⟨"CutShearsModel", "cutAt", "(II)I"⟩ ⟨"CutShearsModel", "cutAt", "(II)I"⟩ ∈ kt_G := kt_m 719 (by decide +kernel) (by decide +kernel)
set_option maxRecDepth 100000 in
theorem mw_720 : Cond.code ⟨"CutShearsModel", "cutAt", "(II)I"⟩ prog_7_method_24_code 3 (some .int) ∈ kt_G := kt_m 720 rfl rfl
set_option maxRecDepth 100000 in
theorem mw_721 : Cond.methodLink "CutShearsLaw" 117 ⟨"CutShearsModel", "blade", "(III)I"⟩ ∈ kt_G := kt_m 721 (by decide +kernel) (by decide +kernel)
set_option maxRecDepth 100000 in
theorem mw_722 : Cond.instanceMethod ⟨"CutShearsModel", "blade", "(III)I"⟩ ∈ kt_G := kt_m 722 (by decide +kernel) (by decide +kernel)
set_option maxRecDepth 100000 in
theorem mw_723 : Cond.selects "CutShearsModel" ⟨"CutShearsModel", "blade", "(III)I"⟩ ⟨"CutShearsModel", "blade", "(III)I"⟩ ∈ kt_G := kt_m 723 (by decide +kernel) (by decide +kernel)
set_option maxRecDepth 100000 in
theorem mw_724 : Cond.code ⟨"CutShearsModel", "blade", "(III)I"⟩ prog_7_method_25_code 6 (some .int) ∈ kt_G := kt_m 724 rfl rfl
set_option maxRecDepth 100000 in
theorem mw_725 : Cond.methodLink "CutShearsLaw" 120 ⟨"CutShearsModel", "sum", "(I)I"⟩ ∈ kt_G := kt_m 725 (by decide +kernel) (by decide +kernel)
set_option maxRecDepth 100000 in
theorem mw_726 : Cond.instanceMethod ⟨"CutShearsModel", "sum", "(I)I"⟩ ∈ kt_G := kt_m 726 (by decide +kernel) (by decide +kernel)
set_option maxRecDepth 100000 in
theorem mw_727 : Cond.selects "CutShearsModel" ⟨"CutShearsModel", "sum", "(I)I"⟩ ⟨"CutShearsModel", "sum", "(I)I"⟩ ∈ kt_G := kt_m 727 (by decide +kernel) (by decide +kernel)
set_option maxRecDepth 100000 in
theorem mw_728 : Cond.code ⟨"CutShearsModel", "sum", "(I)I"⟩ prog_7_method_26_code 4 (some .int) ∈ kt_G := kt_m 728 rfl rfl
set_option maxRecDepth 100000 in
theorem mw_729 : Cond.methodLink "CutShearsLaw" 123 ⟨"CutShearsModel", "side", "(I)I"⟩ ∈ kt_G := kt_m 729 (by decide +kernel) (by decide +kernel)
set_option maxRecDepth 100000 in
theorem mw_730 : Cond.instanceMethod ⟨"CutShearsModel", "side", "(I)I"⟩ ∈ kt_G := kt_m 730 (by decide +kernel) (by decide +kernel)
set_option maxRecDepth 100000 in
theorem mw_731 : Cond.selects "CutShearsModel" ⟨"CutShearsModel", "side", "(I)I"⟩ ⟨"CutShearsModel", "side", "(I)I"⟩ ∈ kt_G := kt_m 731 (by decide +kernel) (by decide +kernel)
set_option maxRecDepth 100000 in
theorem mw_732 : Cond.code ⟨"CutShearsModel", "side", "(I)I"⟩ prog_7_method_27_code 4 (some .int) ∈ kt_G := kt_m 732 rfl rfl
set_option maxRecDepth 100000 in
theorem mw_733 : Cond.arrayClass .long ∈ kt_G := kt_m 733 (by decide +kernel) (by decide +kernel)
abbrev rm_l_want : Room := { frames := 8, cells := 1, slots := 6, locals := 137 }
abbrev rm_l_bar : Room := { frames := 8, cells := 1, slots := 6, locals := 134 }
abbrev rm_l_crop : Room := { frames := 9, cells := 1, slots := 6, locals := 155 }
abbrev rm_l_known : Room := { frames := 9, cells := 1, slots := 6, locals := 153 }
abbrev rm_l_piece : Room := { frames := 8, cells := 1, slots := 6, locals := 133 }
abbrev rm_l_cut : Room := { frames := 7, cells := 1, slots := 6, locals := 113 }
abbrev rm_l_bed : Room := { frames := 8, cells := 1, slots := 6, locals := 134 }
abbrev rm_l_at : Room := { frames := 8, cells := 1, slots := 6, locals := 132 }
abbrev rm_l_bundle : Room := { frames := 8, cells := 1, slots := 6, locals := 134 }
abbrev rm_l_cutAt : Room := { frames := 8, cells := 1, slots := 6, locals := 133 }
abbrev rm_l_blade : Room := { frames := 8, cells := 1, slots := 6, locals := 136 }
abbrev rm_l_sum : Room := { frames := 8, cells := 1, slots := 6, locals := 132 }
abbrev rm_l_side : Room := { frames := 7, cells := 1, slots := 6, locals := 111 }
