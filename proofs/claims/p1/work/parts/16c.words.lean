theorem wd_3279 : Cond.instanceMethod ⟨"CarHouseModel", "addEdge", "()Z"⟩ ∈ GT := gt_14 (List.mem_of_getElem? (i := 159) rfl) rfl
theorem wd_3280 : Cond.code ⟨"CarHouseModel", "addEdge", "()Z"⟩ prog_14_method_36_code 7 (some .boolean) ∈ GT := gt_14 (List.mem_of_getElem? (i := 160) rfl) rfl
theorem wd_3281 : Cond.constantLong "CarHouseModel" 517 1701669236 ∈ GT := gt_14 (List.mem_of_getElem? (i := 161) rfl) rfl
theorem wd_3282 : Cond.methodLink "CarHouseModel" 519 ⟨"CarHouseModel", "guard", "(I)I"⟩ ∈ GT := gt_14 (List.mem_of_getElem? (i := 162) rfl) rfl
theorem wd_3284 : Cond.instanceMethod ⟨"CarHouseModel", "guard", "(I)I"⟩ ∈ GT := gt_14 (List.mem_of_getElem? (i := 164) rfl) rfl
theorem wd_3285 : Cond.code ⟨"CarHouseModel", "guard", "(I)I"⟩ prog_14_method_35_code 5 (some .int) ∈ GT := gt_14 (List.mem_of_getElem? (i := 165) rfl) rfl
theorem wd_3286 : Cond.constantLong "CarHouseModel" 509 26217 ∈ GT := gt_14 (List.mem_of_getElem? (i := 166) rfl) rfl
theorem wd_3287 : Cond.methodLink "CarHouseModel" 511 ⟨"CarHouseModel", "datum", "(I)I"⟩ ∈ GT := gt_14 (List.mem_of_getElem? (i := 167) rfl) rfl
theorem wd_3289 : Cond.instanceMethod ⟨"CarHouseModel", "datum", "(I)I"⟩ ∈ GT := gt_14 (List.mem_of_getElem? (i := 169) rfl) rfl
theorem wd_3290 : Cond.code ⟨"CarHouseModel", "datum", "(I)I"⟩ prog_14_method_25_code 4 (some .int) ∈ GT := gt_14 (List.mem_of_getElem? (i := 170) rfl) rfl
theorem wd_3291 : Cond.methodLink "CarHouseModel" 363 ⟨"CarHouseModel", "findDatum", "(I)I"⟩ ∈ GT := gt_14 (List.mem_of_getElem? (i := 171) rfl) rfl
theorem wd_3293 : Cond.instanceMethod ⟨"CarHouseModel", "findDatum", "(I)I"⟩ ∈ GT := gt_14 (List.mem_of_getElem? (i := 173) rfl) rfl
theorem wd_3294 : Cond.code ⟨"CarHouseModel", "findDatum", "(I)I"⟩ prog_14_method_23_code 3 (some .int) ∈ GT := gt_14 (List.mem_of_getElem? (i := 174) rfl) rfl
theorem wd_3295 : Cond.methodLink "CarHouseModel" 514 ⟨"CarHouseModel", "op", "()I"⟩ ∈ GT := gt_14 (List.mem_of_getElem? (i := 175) rfl) rfl
theorem wd_3297 : Cond.instanceMethod ⟨"CarHouseModel", "op", "()I"⟩ ∈ GT := gt_14 (List.mem_of_getElem? (i := 177) rfl) rfl
theorem wd_3298 : Cond.code ⟨"CarHouseModel", "op", "()I"⟩ prog_14_method_34_code 1 (some .int) ∈ GT := gt_14 (List.mem_of_getElem? (i := 178) rfl) rfl
theorem wd_3299 : Cond.constantLong "CarHouseModel" 497 29029 ∈ GT := gt_14 (List.mem_of_getElem? (i := 179) rfl) rfl
theorem wd_3300 : Cond.constantLong "CarHouseModel" 499 25966 ∈ GT := gt_14 (List.mem_of_getElem? (i := 180) rfl) rfl
theorem wd_3301 : Cond.constantLong "CarHouseModel" 501 29804 ∈ GT := gt_14 (List.mem_of_getElem? (i := 181) rfl) rfl
theorem wd_3302 : Cond.constantLong "CarHouseModel" 503 25959 ∈ GT := gt_14 (List.mem_of_getElem? (i := 182) rfl) rfl
theorem wd_3303 : Cond.constantLong "CarHouseModel" 505 7760228 ∈ GT := gt_14 (List.mem_of_getElem? (i := 183) rfl) rfl
theorem wd_3304 : Cond.constantLong "CarHouseModel" 507 6582125 ∈ GT := gt_14 (List.mem_of_getElem? (i := 184) rfl) rfl
theorem wd_3305 : Cond.methodLink "CarHouseModel" 522 ⟨"CarHouseModel$Chart", "edge", "(IIII)I"⟩ ∈ GT := gt_14 (List.mem_of_getElem? (i := 185) rfl) rfl
theorem wd_3306 : Cond.instanceMethod ⟨"CarHouseModel$Chart", "edge", "(IIII)I"⟩ ∈ GT := gt_14 (List.mem_of_getElem? (i := 186) rfl) rfl
theorem wd_3307 : Cond.selects "CarHouseModel$Chart" ⟨"CarHouseModel$Chart", "edge", "(IIII)I"⟩ ⟨"CarHouseModel$Chart", "edge", "(IIII)I"⟩ ∈ GT := gt_14 (List.mem_of_getElem? (i := 187) rfl) rfl
theorem wd_3308 : Cond.code ⟨"CarHouseModel$Chart", "edge", "(IIII)I"⟩ prog_16_method_8_code 7 (some .int) ∈ GT := gt_14 (List.mem_of_getElem? (i := 188) rfl) rfl
theorem wd_3309 : Cond.constantLong "CarHouseModel" 396 491328398945 ∈ GT := gt_14 (List.mem_of_getElem? (i := 189) rfl) rfl
theorem wd_3310 : Cond.methodLink "CarHouseModel" 398 ⟨"CarHouseModel", "addAfter", "()Z"⟩ ∈ GT := gt_14 (List.mem_of_getElem? (i := 190) rfl) rfl
theorem wd_3312 : Cond.instanceMethod ⟨"CarHouseModel", "addAfter", "()Z"⟩ ∈ GT := gt_14 (List.mem_of_getElem? (i := 192) rfl) rfl
theorem wd_3313 : Cond.code ⟨"CarHouseModel", "addAfter", "()Z"⟩ prog_14_method_37_code 3 (some .boolean) ∈ GT := gt_14 (List.mem_of_getElem? (i := 193) rfl) rfl
theorem wd_3314 : Cond.methodLink "CarHouseModel" 526 ⟨"CarHouseModel$Chart", "after", "(IJ)I"⟩ ∈ GT := gt_14 (List.mem_of_getElem? (i := 194) rfl) rfl
theorem wd_3315 : Cond.instanceMethod ⟨"CarHouseModel$Chart", "after", "(IJ)I"⟩ ∈ GT := gt_14 (List.mem_of_getElem? (i := 195) rfl) rfl
theorem wd_3316 : Cond.selects "CarHouseModel$Chart" ⟨"CarHouseModel$Chart", "after", "(IJ)I"⟩ ⟨"CarHouseModel$Chart", "after", "(IJ)I"⟩ ∈ GT := gt_14 (List.mem_of_getElem? (i := 196) rfl) rfl
theorem wd_3317 : Cond.code ⟨"CarHouseModel$Chart", "after", "(IJ)I"⟩ prog_16_method_11_code 4 (some .int) ∈ GT := gt_14 (List.mem_of_getElem? (i := 197) rfl) rfl
theorem wd_3318 : Cond.constantLong "CarHouseModel$Chart" 142 1099511627776 ∈ GT := gt_14 (List.mem_of_getElem? (i := 198) rfl) rfl
theorem wd_3319 : Cond.constantLong "CarHouseModel" 401 470121996644 ∈ GT := gt_14 (List.mem_of_getElem? (i := 199) rfl) rfl
theorem wd_3320 : Cond.methodLink "CarHouseModel" 403 ⟨"CarHouseModel", "addDatum", "()Z"⟩ ∈ GT := gt_14 (List.mem_of_getElem? (i := 200) rfl) rfl
theorem wd_3322 : Cond.instanceMethod ⟨"CarHouseModel", "addDatum", "()Z"⟩ ∈ GT := gt_14 (List.mem_of_getElem? (i := 202) rfl) rfl
theorem wd_3323 : Cond.code ⟨"CarHouseModel", "addDatum", "()Z"⟩ prog_14_method_38_code 6 (some .boolean) ∈ GT := gt_14 (List.mem_of_getElem? (i := 203) rfl) rfl
theorem wd_3324 : Cond.constant "CarHouseModel" 530 (-999999999) ∈ GT := gt_14 (List.mem_of_getElem? (i := 204) rfl) rfl
theorem wd_3325 : Cond.constant "CarHouseModel" 531 999999999 ∈ GT := gt_14 (List.mem_of_getElem? (i := 205) rfl) rfl
theorem wd_3326 : Cond.methodLink "CarHouseModel" 532 ⟨"CarHouseModel$Chart", "data", "(J)I"⟩ ∈ GT := gt_14 (List.mem_of_getElem? (i := 206) rfl) rfl
theorem wd_3327 : Cond.instanceMethod ⟨"CarHouseModel$Chart", "data", "(J)I"⟩ ∈ GT := gt_14 (List.mem_of_getElem? (i := 207) rfl) rfl
theorem wd_3328 : Cond.selects "CarHouseModel$Chart" ⟨"CarHouseModel$Chart", "data", "(J)I"⟩ ⟨"CarHouseModel$Chart", "data", "(J)I"⟩ ∈ GT := gt_14 (List.mem_of_getElem? (i := 208) rfl) rfl
theorem wd_3329 : Cond.code ⟨"CarHouseModel$Chart", "data", "(J)I"⟩ prog_16_method_10_code 3 (some .int) ∈ GT := gt_14 (List.mem_of_getElem? (i := 209) rfl) rfl
theorem wd_3330 : Cond.constantLong "CarHouseModel" 406 491328400997 ∈ GT := gt_14 (List.mem_of_getElem? (i := 210) rfl) rfl
theorem wd_3331 : Cond.methodLink "CarHouseModel" 408 ⟨"CarHouseModel", "addAct", "(I)Z"⟩ ∈ GT := gt_14 (List.mem_of_getElem? (i := 211) rfl) rfl
theorem wd_3333 : Cond.instanceMethod ⟨"CarHouseModel", "addAct", "(I)Z"⟩ ∈ GT := gt_14 (List.mem_of_getElem? (i := 213) rfl) rfl
theorem wd_3334 : Cond.code ⟨"CarHouseModel", "addAct", "(I)Z"⟩ prog_14_method_39_code 7 (some .boolean) ∈ GT := gt_14 (List.mem_of_getElem? (i := 214) rfl) rfl
theorem wd_3335 : Cond.constantLong "CarHouseModel" 535 1701998445 ∈ GT := gt_14 (List.mem_of_getElem? (i := 215) rfl) rfl
theorem wd_3336 : Cond.methodLink "CarHouseModel" 537 ⟨"CarHouseModel$Chart", "act", "(IIIJ)I"⟩ ∈ GT := gt_14 (List.mem_of_getElem? (i := 216) rfl) rfl
theorem wd_3337 : Cond.instanceMethod ⟨"CarHouseModel$Chart", "act", "(IIIJ)I"⟩ ∈ GT := gt_14 (List.mem_of_getElem? (i := 217) rfl) rfl
theorem wd_3338 : Cond.selects "CarHouseModel$Chart" ⟨"CarHouseModel$Chart", "act", "(IIIJ)I"⟩ ⟨"CarHouseModel$Chart", "act", "(IIIJ)I"⟩ ∈ GT := gt_14 (List.mem_of_getElem? (i := 218) rfl) rfl
theorem wd_3339 : Cond.code ⟨"CarHouseModel$Chart", "act", "(IIIJ)I"⟩ prog_16_method_9_code 7 (some .int) ∈ GT := gt_14 (List.mem_of_getElem? (i := 219) rfl) rfl
theorem wd_3340 : Cond.constantLong "CarHouseModel" 411 435777791340 ∈ GT := gt_14 (List.mem_of_getElem? (i := 220) rfl) rfl
theorem wd_3341 : Cond.constantLong "CarHouseModel" 413 1701536116 ∈ GT := gt_14 (List.mem_of_getElem? (i := 221) rfl) rfl
theorem wd_3342 : Cond.constantLong "CarHouseModel" 415 119165719898483 ∈ GT := gt_14 (List.mem_of_getElem? (i := 222) rfl) rfl
theorem wd_3343 : Cond.methodLink "CarHouseModel" 417 ⟨"CarHouseModel", "addSignal", "()Z"⟩ ∈ GT := gt_14 (List.mem_of_getElem? (i := 223) rfl) rfl
theorem wd_3345 : Cond.instanceMethod ⟨"CarHouseModel", "addSignal", "()Z"⟩ ∈ GT := gt_14 (List.mem_of_getElem? (i := 225) rfl) rfl
theorem wd_3346 : Cond.code ⟨"CarHouseModel", "addSignal", "()Z"⟩ prog_14_method_40_code 5 (some .boolean) ∈ GT := gt_14 (List.mem_of_getElem? (i := 226) rfl) rfl
theorem wd_3347 : Cond.constantLong "CarHouseModel" 544 110386807469428 ∈ GT := gt_14 (List.mem_of_getElem? (i := 227) rfl) rfl
theorem wd_3348 : Cond.constantLong "CarHouseModel" 420 32760384694743664 ∈ GT := gt_14 (List.mem_of_getElem? (i := 228) rfl) rfl
theorem wd_3349 : Cond.methodLink "CarHouseModel" 422 ⟨"CarHouseModel", "addKey", "()Z"⟩ ∈ GT := gt_14 (List.mem_of_getElem? (i := 229) rfl) rfl
theorem wd_3351 : Cond.instanceMethod ⟨"CarHouseModel", "addKey", "()Z"⟩ ∈ GT := gt_14 (List.mem_of_getElem? (i := 231) rfl) rfl
theorem wd_3352 : Cond.code ⟨"CarHouseModel", "addKey", "()Z"⟩ prog_14_method_42_code 4 (some .boolean) ∈ GT := gt_14 (List.mem_of_getElem? (i := 232) rfl) rfl
theorem wd_3353 : Cond.methodLink "CarHouseModel" 549 ⟨"CarHouseModel", "keyOf", "(II)I"⟩ ∈ GT := gt_14 (List.mem_of_getElem? (i := 233) rfl) rfl
theorem wd_3355 : Cond.instanceMethod ⟨"CarHouseModel", "keyOf", "(II)I"⟩ ∈ GT := gt_14 (List.mem_of_getElem? (i := 235) rfl) rfl
theorem wd_3356 : Cond.code ⟨"CarHouseModel", "keyOf", "(II)I"⟩ prog_14_method_41_code 4 (some .int) ∈ GT := gt_14 (List.mem_of_getElem? (i := 236) rfl) rfl
theorem wd_3357 : Cond.constantLong "CarHouseModel" 425 1684104562 ∈ GT := gt_14 (List.mem_of_getElem? (i := 237) rfl) rfl
theorem wd_3358 : Cond.methodLink "CarHouseModel" 427 ⟨"CarHouseModel", "addRead", "()Z"⟩ ∈ GT := gt_14 (List.mem_of_getElem? (i := 238) rfl) rfl
theorem wd_3360 : Cond.instanceMethod ⟨"CarHouseModel", "addRead", "()Z"⟩ ∈ GT := gt_15 (List.mem_of_getElem? (i := 0) rfl) rfl
theorem wd_3361 : Cond.code ⟨"CarHouseModel", "addRead", "()Z"⟩ prog_14_method_44_code 4 (some .boolean) ∈ GT := gt_15 (List.mem_of_getElem? (i := 1) rfl) rfl
theorem wd_3362 : Cond.methodLink "CarHouseModel" 552 ⟨"CarHouseModel", "senderOf", "(I)I"⟩ ∈ GT := gt_15 (List.mem_of_getElem? (i := 2) rfl) rfl
theorem wd_3364 : Cond.instanceMethod ⟨"CarHouseModel", "senderOf", "(I)I"⟩ ∈ GT := gt_15 (List.mem_of_getElem? (i := 4) rfl) rfl
theorem wd_3365 : Cond.code ⟨"CarHouseModel", "senderOf", "(I)I"⟩ prog_14_method_43_code 2 (some .int) ∈ GT := gt_15 (List.mem_of_getElem? (i := 5) rfl) rfl
theorem wd_3366 : Cond.constantLong "CarHouseModel" 430 448345170295 ∈ GT := gt_15 (List.mem_of_getElem? (i := 6) rfl) rfl
theorem wd_3367 : Cond.methodLink "CarHouseModel" 432 ⟨"CarHouseModel", "addWatch", "()Z"⟩ ∈ GT := gt_15 (List.mem_of_getElem? (i := 7) rfl) rfl
theorem wd_3369 : Cond.instanceMethod ⟨"CarHouseModel", "addWatch", "()Z"⟩ ∈ GT := gt_15 (List.mem_of_getElem? (i := 9) rfl) rfl
theorem wd_3370 : Cond.code ⟨"CarHouseModel", "addWatch", "()Z"⟩ prog_14_method_45_code 3 (some .boolean) ∈ GT := gt_15 (List.mem_of_getElem? (i := 10) rfl) rfl
theorem wd_3371 : Cond.methodLink "CarHouseModel" 561 ⟨"CarHouseModel$Troubles", "code", "(III)I"⟩ ∈ GT := gt_15 (List.mem_of_getElem? (i := 11) rfl) rfl
theorem wd_3372 : Cond.instanceMethod ⟨"CarHouseModel$Troubles", "code", "(III)I"⟩ ∈ GT := gt_15 (List.mem_of_getElem? (i := 12) rfl) rfl
theorem wd_3373 : Cond.selects "CarHouseModel$Troubles" ⟨"CarHouseModel$Troubles", "code", "(III)I"⟩ ⟨"CarHouseModel$Troubles", "code", "(III)I"⟩ ∈ GT := gt_15 (List.mem_of_getElem? (i := 13) rfl) rfl
theorem wd_3374 : Cond.code ⟨"CarHouseModel$Troubles", "code", "(III)I"⟩ prog_21_method_10_code 4 (some .int) ∈ GT := gt_15 (List.mem_of_getElem? (i := 14) rfl) rfl
theorem wd_3375 : Cond.methodLink "CarHouseModel$Troubles" 99 ⟨"CarHouseModel$Troubles", "freshen", "(I)V"⟩ ∈ GT := gt_15 (List.mem_of_getElem? (i := 15) rfl) rfl
theorem wd_3377 : Cond.instanceMethod ⟨"CarHouseModel$Troubles", "freshen", "(I)V"⟩ ∈ GT := gt_15 (List.mem_of_getElem? (i := 17) rfl) rfl
theorem wd_3378 : Cond.code ⟨"CarHouseModel$Troubles", "freshen", "(I)V"⟩ prog_21_method_8_code 3 none ∈ GT := gt_15 (List.mem_of_getElem? (i := 18) rfl) rfl
theorem wd_3379 : Cond.methodLink "CarHouseModel$Troubles" 95 ⟨"CarHouseModel$Troubles", "set", "(IIZ)V"⟩ ∈ GT := gt_15 (List.mem_of_getElem? (i := 19) rfl) rfl
theorem wd_3381 : Cond.instanceMethod ⟨"CarHouseModel$Troubles", "set", "(IIZ)V"⟩ ∈ GT := gt_15 (List.mem_of_getElem? (i := 21) rfl) rfl
theorem wd_3382 : Cond.code ⟨"CarHouseModel$Troubles", "set", "(IIZ)V"⟩ prog_21_method_6_code 4 none ∈ GT := gt_15 (List.mem_of_getElem? (i := 22) rfl) rfl
theorem wd_3383 : Cond.methodLink "CarHouseModel$Troubles" 103 ⟨"CarHouseModel$Troubles", "keep", "(I)V"⟩ ∈ GT := gt_15 (List.mem_of_getElem? (i := 23) rfl) rfl
theorem wd_3385 : Cond.instanceMethod ⟨"CarHouseModel$Troubles", "keep", "(I)V"⟩ ∈ GT := gt_15 (List.mem_of_getElem? (i := 25) rfl) rfl
theorem wd_3386 : Cond.code ⟨"CarHouseModel$Troubles", "keep", "(I)V"⟩ prog_21_method_9_code 3 none ∈ GT := gt_15 (List.mem_of_getElem? (i := 26) rfl) rfl
theorem wd_3387 : Cond.methodLink "CarHouseModel$Troubles" 91 ⟨"CarHouseModel$Troubles", "is", "(II)Z"⟩ ∈ GT := gt_15 (List.mem_of_getElem? (i := 27) rfl) rfl
theorem wd_3389 : Cond.instanceMethod ⟨"CarHouseModel$Troubles", "is", "(II)Z"⟩ ∈ GT := gt_15 (List.mem_of_getElem? (i := 29) rfl) rfl
theorem wd_3390 : Cond.code ⟨"CarHouseModel$Troubles", "is", "(II)Z"⟩ prog_21_method_5_code 3 (some .boolean) ∈ GT := gt_15 (List.mem_of_getElem? (i := 30) rfl) rfl
theorem wd_3391 : Cond.methodLink "CarHouseModel" 640 ⟨"CarHouseModel", "join", "()Z"⟩ ∈ GT := gt_15 (List.mem_of_getElem? (i := 31) rfl) rfl
theorem wd_3393 : Cond.instanceMethod ⟨"CarHouseModel", "join", "()Z"⟩ ∈ GT := gt_15 (List.mem_of_getElem? (i := 33) rfl) rfl
theorem wd_3394 : Cond.code ⟨"CarHouseModel", "join", "()Z"⟩ prog_14_method_46_code 4 (some .boolean) ∈ GT := gt_15 (List.mem_of_getElem? (i := 34) rfl) rfl
theorem wd_3395 : Cond.methodLink "CarHouseModel" 564 ⟨"CarHouseModel", "packOne", "(IZI)Z"⟩ ∈ GT := gt_15 (List.mem_of_getElem? (i := 35) rfl) rfl
theorem wd_3397 : Cond.instanceMethod ⟨"CarHouseModel", "packOne", "(IZI)Z"⟩ ∈ GT := gt_15 (List.mem_of_getElem? (i := 37) rfl) rfl
theorem wd_3398 : Cond.code ⟨"CarHouseModel", "packOne", "(IZI)Z"⟩ prog_14_method_47_code 9 (some .boolean) ∈ GT := gt_15 (List.mem_of_getElem? (i := 38) rfl) rfl
theorem wd_3399 : Cond.methodLink "CarHouseModel" 571 ⟨"CarHouseModel$Pack", "anew", "(I)V"⟩ ∈ GT := gt_15 (List.mem_of_getElem? (i := 39) rfl) rfl
theorem wd_3400 : Cond.instanceMethod ⟨"CarHouseModel$Pack", "anew", "(I)V"⟩ ∈ GT := gt_15 (List.mem_of_getElem? (i := 40) rfl) rfl
theorem wd_3401 : Cond.selects "CarHouseModel$Pack" ⟨"CarHouseModel$Pack", "anew", "(I)V"⟩ ⟨"CarHouseModel$Pack", "anew", "(I)V"⟩ ∈ GT := gt_15 (List.mem_of_getElem? (i := 41) rfl) rfl
theorem wd_3402 : Cond.code ⟨"CarHouseModel$Pack", "anew", "(I)V"⟩ prog_19_method_2_code 3 none ∈ GT := gt_15 (List.mem_of_getElem? (i := 42) rfl) rfl
theorem wd_3403 : Cond.methodLink "CarHouseModel" 572 ⟨"CarHouseModel$Pack", "signal", "(IIZ)I"⟩ ∈ GT := gt_15 (List.mem_of_getElem? (i := 43) rfl) rfl
theorem wd_3404 : Cond.instanceMethod ⟨"CarHouseModel$Pack", "signal", "(IIZ)I"⟩ ∈ GT := gt_15 (List.mem_of_getElem? (i := 44) rfl) rfl
theorem wd_3405 : Cond.selects "CarHouseModel$Pack" ⟨"CarHouseModel$Pack", "signal", "(IIZ)I"⟩ ⟨"CarHouseModel$Pack", "signal", "(IIZ)I"⟩ ∈ GT := gt_15 (List.mem_of_getElem? (i := 45) rfl) rfl
theorem wd_3406 : Cond.code ⟨"CarHouseModel$Pack", "signal", "(IIZ)I"⟩ prog_19_method_9_code 4 (some .int) ∈ GT := gt_15 (List.mem_of_getElem? (i := 46) rfl) rfl
theorem wd_3407 : Cond.constant "CarHouseModel$Pack" 102 1000000 ∈ GT := gt_15 (List.mem_of_getElem? (i := 47) rfl) rfl
theorem wd_3408 : Cond.constantLong "CarHouseModel" 576 5040 ∈ GT := gt_15 (List.mem_of_getElem? (i := 48) rfl) rfl
theorem wd_3409 : Cond.methodLink "CarHouseModel" 578 ⟨"CarHouseModel$Pack", "pack", "(J)I"⟩ ∈ GT := gt_15 (List.mem_of_getElem? (i := 49) rfl) rfl
theorem wd_3410 : Cond.instanceMethod ⟨"CarHouseModel$Pack", "pack", "(J)I"⟩ ∈ GT := gt_15 (List.mem_of_getElem? (i := 50) rfl) rfl
theorem wd_3411 : Cond.selects "CarHouseModel$Pack" ⟨"CarHouseModel$Pack", "pack", "(J)I"⟩ ⟨"CarHouseModel$Pack", "pack", "(J)I"⟩ ∈ GT := gt_15 (List.mem_of_getElem? (i := 51) rfl) rfl
theorem wd_3412 : Cond.code ⟨"CarHouseModel$Pack", "pack", "(J)I"⟩ prog_19_method_25_code 7 (some .int) ∈ GT := gt_15 (List.mem_of_getElem? (i := 52) rfl) rfl
theorem wd_3413 : Cond.methodLink "CarHouseModel$Pack" 151 ⟨"CarHouseModel$Pack", "packs", "(J)Z"⟩ ∈ GT := gt_15 (List.mem_of_getElem? (i := 53) rfl) rfl
theorem wd_3415 : Cond.instanceMethod ⟨"CarHouseModel$Pack", "packs", "(J)Z"⟩ ∈ GT := gt_15 (List.mem_of_getElem? (i := 55) rfl) rfl
theorem wd_3416 : Cond.code ⟨"CarHouseModel$Pack", "packs", "(J)Z"⟩ prog_19_method_24_code 6 (some .boolean) ∈ GT := gt_15 (List.mem_of_getElem? (i := 56) rfl) rfl
theorem wd_3417 : Cond.methodLink "CarHouseModel$Pack" 110 ⟨"CarHouseModel$Pack", "isGroup", "(I)Z"⟩ ∈ GT := gt_15 (List.mem_of_getElem? (i := 57) rfl) rfl
theorem wd_3419 : Cond.instanceMethod ⟨"CarHouseModel$Pack", "isGroup", "(I)Z"⟩ ∈ GT := gt_15 (List.mem_of_getElem? (i := 59) rfl) rfl
theorem wd_3420 : Cond.code ⟨"CarHouseModel$Pack", "isGroup", "(I)Z"⟩ prog_19_method_12_code 2 (some .boolean) ∈ GT := gt_15 (List.mem_of_getElem? (i := 60) rfl) rfl
theorem wd_3421 : Cond.methodLink "CarHouseModel$Pack" 107 ⟨"CarHouseModel$Pack", "size", "(I)I"⟩ ∈ GT := gt_15 (List.mem_of_getElem? (i := 61) rfl) rfl
theorem wd_3423 : Cond.instanceMethod ⟨"CarHouseModel$Pack", "size", "(I)I"⟩ ∈ GT := gt_15 (List.mem_of_getElem? (i := 63) rfl) rfl
theorem wd_3424 : Cond.code ⟨"CarHouseModel$Pack", "size", "(I)I"⟩ prog_19_method_7_code 6 (some .int) ∈ GT := gt_15 (List.mem_of_getElem? (i := 64) rfl) rfl
theorem wd_3425 : Cond.methodLink "CarHouseModel$Pack" 98 ⟨"CarHouseModel$Pack", "part", "(IIII)I"⟩ ∈ GT := gt_15 (List.mem_of_getElem? (i := 65) rfl) rfl
theorem wd_3427 : Cond.instanceMethod ⟨"CarHouseModel$Pack", "part", "(IIII)I"⟩ ∈ GT := gt_15 (List.mem_of_getElem? (i := 67) rfl) rfl
theorem wd_3428 : Cond.code ⟨"CarHouseModel$Pack", "part", "(IIII)I"⟩ prog_19_method_6_code 8 (some .int) ∈ GT := gt_15 (List.mem_of_getElem? (i := 68) rfl) rfl
theorem wd_3429 : Cond.methodLink "CarHouseModel$Pack" 94 ⟨"CarHouseModel$Pack", "octetsOf", "(I)I"⟩ ∈ GT := gt_15 (List.mem_of_getElem? (i := 69) rfl) rfl
theorem wd_3431 : Cond.instanceMethod ⟨"CarHouseModel$Pack", "octetsOf", "(I)I"⟩ ∈ GT := gt_15 (List.mem_of_getElem? (i := 71) rfl) rfl
theorem wd_3432 : Cond.code ⟨"CarHouseModel$Pack", "octetsOf", "(I)I"⟩ prog_19_method_5_code 2 (some .int) ∈ GT := gt_15 (List.mem_of_getElem? (i := 72) rfl) rfl
theorem wd_3433 : Cond.methodLink "CarHouseModel$Pack" 131 ⟨"CarHouseModel$Pack", "hasOther", "(II)Z"⟩ ∈ GT := gt_15 (List.mem_of_getElem? (i := 73) rfl) rfl
theorem wd_3435 : Cond.instanceMethod ⟨"CarHouseModel$Pack", "hasOther", "(II)Z"⟩ ∈ GT := gt_15 (List.mem_of_getElem? (i := 75) rfl) rfl
theorem wd_3436 : Cond.code ⟨"CarHouseModel$Pack", "hasOther", "(II)Z"⟩ prog_19_method_17_code 5 (some .boolean) ∈ GT := gt_15 (List.mem_of_getElem? (i := 76) rfl) rfl
theorem wd_3437 : Cond.methodLink "CarHouseModel$Pack" 113 ⟨"CarHouseModel$Pack", "isFree", "(III)Z"⟩ ∈ GT := gt_15 (List.mem_of_getElem? (i := 77) rfl) rfl
theorem wd_3439 : Cond.instanceMethod ⟨"CarHouseModel$Pack", "isFree", "(III)Z"⟩ ∈ GT := gt_15 (List.mem_of_getElem? (i := 79) rfl) rfl
theorem wd_3440 : Cond.code ⟨"CarHouseModel$Pack", "isFree", "(III)Z"⟩ prog_19_method_14_code 6 (some .boolean) ∈ GT := gt_15 (List.mem_of_getElem? (i := 80) rfl) rfl
theorem wd_3441 : Cond.constant "CarHouseModel$Pack" 141 1000001 ∈ GT := gt_15 (List.mem_of_getElem? (i := 81) rfl) rfl
theorem wd_3442 : Cond.methodLink "CarHouseModel$Pack" 142 ⟨"CarHouseModel$Pack", "packPeriod", "(IJ)Z"⟩ ∈ GT := gt_15 (List.mem_of_getElem? (i := 82) rfl) rfl
theorem wd_3444 : Cond.instanceMethod ⟨"CarHouseModel$Pack", "packPeriod", "(IJ)Z"⟩ ∈ GT := gt_15 (List.mem_of_getElem? (i := 84) rfl) rfl
theorem wd_3445 : Cond.code ⟨"CarHouseModel$Pack", "packPeriod", "(IJ)Z"⟩ prog_19_method_22_code 9 (some .boolean) ∈ GT := gt_15 (List.mem_of_getElem? (i := 85) rfl) rfl
theorem wd_3446 : Cond.methodLink "CarHouseModel$Pack" 128 ⟨"CarHouseModel$Pack", "listed", "(I)I"⟩ ∈ GT := gt_15 (List.mem_of_getElem? (i := 86) rfl) rfl
theorem wd_3448 : Cond.instanceMethod ⟨"CarHouseModel$Pack", "listed", "(I)I"⟩ ∈ GT := gt_15 (List.mem_of_getElem? (i := 88) rfl) rfl
theorem wd_3449 : Cond.code ⟨"CarHouseModel$Pack", "listed", "(I)I"⟩ prog_19_method_21_code 7 (some .int) ∈ GT := gt_15 (List.mem_of_getElem? (i := 89) rfl) rfl
theorem wd_3450 : Cond.methodLink "CarHouseModel$Pack" 117 ⟨"CarHouseModel$Pack", "isUsed", "(I)Z"⟩ ∈ GT := gt_15 (List.mem_of_getElem? (i := 90) rfl) rfl
theorem wd_3452 : Cond.instanceMethod ⟨"CarHouseModel$Pack", "isUsed", "(I)Z"⟩ ∈ GT := gt_15 (List.mem_of_getElem? (i := 92) rfl) rfl
theorem wd_3453 : Cond.code ⟨"CarHouseModel$Pack", "isUsed", "(I)Z"⟩ prog_19_method_16_code 4 (some .boolean) ∈ GT := gt_15 (List.mem_of_getElem? (i := 93) rfl) rfl
theorem wd_3454 : Cond.methodLink "CarHouseModel$Pack" 135 ⟨"CarHouseModel$Pack", "inTurn", "(II)Z"⟩ ∈ GT := gt_15 (List.mem_of_getElem? (i := 94) rfl) rfl
theorem wd_3456 : Cond.instanceMethod ⟨"CarHouseModel$Pack", "inTurn", "(II)Z"⟩ ∈ GT := gt_15 (List.mem_of_getElem? (i := 96) rfl) rfl
theorem wd_3457 : Cond.code ⟨"CarHouseModel$Pack", "inTurn", "(II)Z"⟩ prog_19_method_20_code 9 (some .boolean) ∈ GT := gt_15 (List.mem_of_getElem? (i := 97) rfl) rfl
theorem wd_3458 : Cond.methodLink "CarHouseModel$Pack" 124 ⟨"CarHouseModel$Pack", "room", "(II)I"⟩ ∈ GT := gt_15 (List.mem_of_getElem? (i := 98) rfl) rfl
theorem wd_3460 : Cond.instanceMethod ⟨"CarHouseModel$Pack", "room", "(II)I"⟩ ∈ GT := gt_15 (List.mem_of_getElem? (i := 100) rfl) rfl
theorem wd_3461 : Cond.code ⟨"CarHouseModel$Pack", "room", "(II)I"⟩ prog_19_method_15_code 6 (some .int) ∈ GT := gt_15 (List.mem_of_getElem? (i := 101) rfl) rfl
theorem wd_3462 : Cond.methodLink "CarHouseModel$Pack" 120 ⟨"CarHouseModel$Pack", "newFrame", "()I"⟩ ∈ GT := gt_15 (List.mem_of_getElem? (i := 102) rfl) rfl
theorem wd_3464 : Cond.instanceMethod ⟨"CarHouseModel$Pack", "newFrame", "()I"⟩ ∈ GT := gt_15 (List.mem_of_getElem? (i := 104) rfl) rfl
theorem wd_3465 : Cond.code ⟨"CarHouseModel$Pack", "newFrame", "()I"⟩ prog_19_method_18_code 2 (some .int) ∈ GT := gt_15 (List.mem_of_getElem? (i := 105) rfl) rfl
theorem wd_3466 : Cond.methodLink "CarHouseModel$Pack" 138 ⟨"CarHouseModel$Pack", "search", "(III)Z"⟩ ∈ GT := gt_15 (List.mem_of_getElem? (i := 106) rfl) rfl
theorem wd_3468 : Cond.instanceMethod ⟨"CarHouseModel$Pack", "search", "(III)Z"⟩ ∈ GT := gt_15 (List.mem_of_getElem? (i := 108) rfl) rfl
theorem wd_3469 : Cond.code ⟨"CarHouseModel$Pack", "search", "(III)Z"⟩ prog_19_method_19_code 10 (some .boolean) ∈ GT := gt_15 (List.mem_of_getElem? (i := 109) rfl) rfl
theorem wd_3470 : Cond.methodLink "CarHouseModel$Pack" 146 ⟨"CarHouseModel$Pack", "frames", "()I"⟩ ∈ GT := gt_15 (List.mem_of_getElem? (i := 110) rfl) rfl
theorem wd_3472 : Cond.instanceMethod ⟨"CarHouseModel$Pack", "frames", "()I"⟩ ∈ GT := gt_15 (List.mem_of_getElem? (i := 112) rfl) rfl
theorem wd_3473 : Cond.code ⟨"CarHouseModel$Pack", "frames", "()I"⟩ prog_19_method_23_code 3 (some .int) ∈ GT := gt_15 (List.mem_of_getElem? (i := 113) rfl) rfl
theorem wd_3474 : Cond.constantLong "CarHouseModel$Pack" 149 65536 ∈ GT := gt_15 (List.mem_of_getElem? (i := 114) rfl) rfl
theorem wd_3475 : Cond.methodLink "CarHouseModel$Pack" 155 ⟨"CarHouseModel$Pack", "bitInGroup", "(I)I"⟩ ∈ GT := gt_15 (List.mem_of_getElem? (i := 115) rfl) rfl
theorem wd_3477 : Cond.instanceMethod ⟨"CarHouseModel$Pack", "bitInGroup", "(I)I"⟩ ∈ GT := gt_15 (List.mem_of_getElem? (i := 117) rfl) rfl
theorem wd_3478 : Cond.code ⟨"CarHouseModel$Pack", "bitInGroup", "(I)I"⟩ prog_19_method_8_code 3 (some .int) ∈ GT := gt_15 (List.mem_of_getElem? (i := 118) rfl) rfl
theorem wd_3479 : Cond.methodLink "CarHouseModel" 581 ⟨"CarHouseModel$Pack", "place", "(II)I"⟩ ∈ GT := gt_15 (List.mem_of_getElem? (i := 119) rfl) rfl
theorem wd_3480 : Cond.instanceMethod ⟨"CarHouseModel$Pack", "place", "(II)I"⟩ ∈ GT := gt_15 (List.mem_of_getElem? (i := 120) rfl) rfl
theorem wd_3481 : Cond.selects "CarHouseModel$Pack" ⟨"CarHouseModel$Pack", "place", "(II)I"⟩ ⟨"CarHouseModel$Pack", "place", "(II)I"⟩ ∈ GT := gt_15 (List.mem_of_getElem? (i := 121) rfl) rfl
theorem wd_3482 : Cond.code ⟨"CarHouseModel$Pack", "place", "(II)I"⟩ prog_19_method_27_code 3 (some .int) ∈ GT := gt_15 (List.mem_of_getElem? (i := 122) rfl) rfl
theorem wd_3483 : Cond.methodLink "CarHouseModel$Pack" 103 ⟨"CarHouseModel$Pack", "none", "(I)Z"⟩ ∈ GT := gt_15 (List.mem_of_getElem? (i := 123) rfl) rfl
theorem wd_3485 : Cond.instanceMethod ⟨"CarHouseModel$Pack", "none", "(I)Z"⟩ ∈ GT := gt_15 (List.mem_of_getElem? (i := 125) rfl) rfl
theorem wd_3486 : Cond.code ⟨"CarHouseModel$Pack", "none", "(I)Z"⟩ prog_19_method_4_code 2 (some .boolean) ∈ GT := gt_15 (List.mem_of_getElem? (i := 126) rfl) rfl
theorem wd_3487 : Cond.methodLink "CarHouseModel$Pack" 158 ⟨"CarHouseModel$Pack", "isNowhere", "(I)Z"⟩ ∈ GT := gt_15 (List.mem_of_getElem? (i := 127) rfl) rfl
theorem wd_3489 : Cond.instanceMethod ⟨"CarHouseModel$Pack", "isNowhere", "(I)Z"⟩ ∈ GT := gt_15 (List.mem_of_getElem? (i := 129) rfl) rfl
theorem wd_3490 : Cond.code ⟨"CarHouseModel$Pack", "isNowhere", "(I)Z"⟩ prog_19_method_26_code 2 (some .boolean) ∈ GT := gt_15 (List.mem_of_getElem? (i := 130) rfl) rfl
theorem wd_3491 : Cond.methodLink "CarHouseModel" 643 ⟨"CarHouseModel", "build", "()Z"⟩ ∈ GT := gt_15 (List.mem_of_getElem? (i := 131) rfl) rfl
theorem wd_3493 : Cond.instanceMethod ⟨"CarHouseModel", "build", "()Z"⟩ ∈ GT := gt_15 (List.mem_of_getElem? (i := 133) rfl) rfl
theorem wd_3494 : Cond.code ⟨"CarHouseModel", "build", "()Z"⟩ prog_14_method_48_code 5 (some .boolean) ∈ GT := gt_15 (List.mem_of_getElem? (i := 134) rfl) rfl
theorem wd_3495 : Cond.methodLink "CarHouseModel" 584 ⟨"CarHouseModel$Cores", "anew", "(I)V"⟩ ∈ GT := gt_15 (List.mem_of_getElem? (i := 135) rfl) rfl
theorem wd_3496 : Cond.instanceMethod ⟨"CarHouseModel$Cores", "anew", "(I)V"⟩ ∈ GT := gt_15 (List.mem_of_getElem? (i := 136) rfl) rfl
theorem wd_3497 : Cond.selects "CarHouseModel$Cores" ⟨"CarHouseModel$Cores", "anew", "(I)V"⟩ ⟨"CarHouseModel$Cores", "anew", "(I)V"⟩ ∈ GT := gt_15 (List.mem_of_getElem? (i := 137) rfl) rfl
theorem wd_3498 : Cond.code ⟨"CarHouseModel$Cores", "anew", "(I)V"⟩ prog_18_method_2_code 3 none ∈ GT := gt_15 (List.mem_of_getElem? (i := 138) rfl) rfl
theorem wd_3499 : Cond.methodLink "CarHouseModel" 585 ⟨"CarHouseModel$Bus", "nodes", "(I)V"⟩ ∈ GT := gt_15 (List.mem_of_getElem? (i := 139) rfl) rfl
theorem wd_3500 : Cond.instanceMethod ⟨"CarHouseModel$Bus", "nodes", "(I)V"⟩ ∈ GT := gt_15 (List.mem_of_getElem? (i := 140) rfl) rfl
theorem wd_3501 : Cond.selects "CarHouseModel$Bus" ⟨"CarHouseModel$Bus", "nodes", "(I)V"⟩ ⟨"CarHouseModel$Bus", "nodes", "(I)V"⟩ ∈ GT := gt_15 (List.mem_of_getElem? (i := 141) rfl) rfl
theorem wd_3502 : Cond.code ⟨"CarHouseModel$Bus", "nodes", "(I)V"⟩ prog_15_method_3_code 3 none ∈ GT := gt_15 (List.mem_of_getElem? (i := 142) rfl) rfl
theorem wd_3503 : Cond.methodLink "CarHouseModel" 588 ⟨"CarHouseModel$Transfer", "anew", "(I)V"⟩ ∈ GT := gt_15 (List.mem_of_getElem? (i := 143) rfl) rfl
theorem wd_3504 : Cond.instanceMethod ⟨"CarHouseModel$Transfer", "anew", "(I)V"⟩ ∈ GT := gt_15 (List.mem_of_getElem? (i := 144) rfl) rfl
theorem wd_3505 : Cond.selects "CarHouseModel$Transfer" ⟨"CarHouseModel$Transfer", "anew", "(I)V"⟩ ⟨"CarHouseModel$Transfer", "anew", "(I)V"⟩ ∈ GT := gt_15 (List.mem_of_getElem? (i := 145) rfl) rfl
theorem wd_3506 : Cond.code ⟨"CarHouseModel$Transfer", "anew", "(I)V"⟩ prog_20_method_2_code 3 none ∈ GT := gt_15 (List.mem_of_getElem? (i := 146) rfl) rfl
theorem wd_3507 : Cond.methodLink "CarHouseModel" 589 ⟨"CarHouseModel$Cores", "task", "(IIIZ)I"⟩ ∈ GT := gt_15 (List.mem_of_getElem? (i := 147) rfl) rfl
theorem wd_3508 : Cond.instanceMethod ⟨"CarHouseModel$Cores", "task", "(IIIZ)I"⟩ ∈ GT := gt_15 (List.mem_of_getElem? (i := 148) rfl) rfl
theorem wd_3509 : Cond.selects "CarHouseModel$Cores" ⟨"CarHouseModel$Cores", "task", "(IIIZ)I"⟩ ⟨"CarHouseModel$Cores", "task", "(IIIZ)I"⟩ ∈ GT := gt_15 (List.mem_of_getElem? (i := 149) rfl) rfl
theorem wd_3510 : Cond.code ⟨"CarHouseModel$Cores", "task", "(IIIZ)I"⟩ prog_18_method_4_code 5 (some .int) ∈ GT := gt_15 (List.mem_of_getElem? (i := 150) rfl) rfl
theorem wd_3511 : Cond.methodLink "CarHouseModel" 593 ⟨"CarHouseModel$Cores", "part", "(IIJ)I"⟩ ∈ GT := gt_15 (List.mem_of_getElem? (i := 151) rfl) rfl
theorem wd_3512 : Cond.instanceMethod ⟨"CarHouseModel$Cores", "part", "(IIJ)I"⟩ ∈ GT := gt_15 (List.mem_of_getElem? (i := 152) rfl) rfl
theorem wd_3513 : Cond.selects "CarHouseModel$Cores" ⟨"CarHouseModel$Cores", "part", "(IIJ)I"⟩ ⟨"CarHouseModel$Cores", "part", "(IIJ)I"⟩ ∈ GT := gt_15 (List.mem_of_getElem? (i := 153) rfl) rfl
theorem wd_3514 : Cond.code ⟨"CarHouseModel$Cores", "part", "(IIJ)I"⟩ prog_18_method_6_code 7 (some .int) ∈ GT := gt_15 (List.mem_of_getElem? (i := 154) rfl) rfl
theorem wd_3515 : Cond.methodLink "CarHouseModel$Cores" 165 ⟨"CarHouseModel$Cores", "no", "(I)Z"⟩ ∈ GT := gt_15 (List.mem_of_getElem? (i := 155) rfl) rfl
theorem wd_3517 : Cond.instanceMethod ⟨"CarHouseModel$Cores", "no", "(I)Z"⟩ ∈ GT := gt_15 (List.mem_of_getElem? (i := 157) rfl) rfl
theorem wd_3518 : Cond.code ⟨"CarHouseModel$Cores", "no", "(I)Z"⟩ prog_18_method_3_code 2 (some .boolean) ∈ GT := gt_15 (List.mem_of_getElem? (i := 158) rfl) rfl
theorem wd_3519 : Cond.methodLink "CarHouseModel$Cores" 169 ⟨"CarHouseModel$Cores", "good", "(IJ)Z"⟩ ∈ GT := gt_15 (List.mem_of_getElem? (i := 159) rfl) rfl
theorem wd_3520 : Cond.static ⟨"CarHouseModel$Cores", "good", "(IJ)Z"⟩ ∈ GT := gt_15 (List.mem_of_getElem? (i := 160) rfl) rfl
theorem wd_3521 : Cond.code ⟨"CarHouseModel$Cores", "good", "(IJ)Z"⟩ prog_18_method_5_code 3 (some .boolean) ∈ GT := gt_15 (List.mem_of_getElem? (i := 161) rfl) rfl
theorem wd_3522 : Cond.constantLong "CarHouseModel$Cores" 149 50000 ∈ GT := gt_15 (List.mem_of_getElem? (i := 162) rfl) rfl
theorem wd_3523 : Cond.constantLong "CarHouseModel$Cores" 151 100 ∈ GT := gt_15 (List.mem_of_getElem? (i := 163) rfl) rfl
theorem wd_3524 : Cond.constantLong "CarHouseModel$Cores" 153 65535 ∈ GT := gt_15 (List.mem_of_getElem? (i := 164) rfl) rfl
theorem wd_3525 : Cond.constantLong "CarHouseModel$Cores" 155 65537 ∈ GT := gt_15 (List.mem_of_getElem? (i := 165) rfl) rfl
theorem wd_3526 : Cond.constantLong "CarHouseModel$Cores" 157 6619135 ∈ GT := gt_15 (List.mem_of_getElem? (i := 166) rfl) rfl
theorem wd_3527 : Cond.constantLong "CarHouseModel$Cores" 159 65536 ∈ GT := gt_15 (List.mem_of_getElem? (i := 167) rfl) rfl
theorem wd_3528 : Cond.constantLong "CarHouseModel$Cores" 161 32 ∈ GT := gt_15 (List.mem_of_getElem? (i := 168) rfl) rfl
theorem wd_3529 : Cond.constantLong "CarHouseModel$Cores" 163 16 ∈ GT := gt_15 (List.mem_of_getElem? (i := 169) rfl) rfl
theorem wd_3530 : Cond.methodLink "CarHouseModel" 597 ⟨"CarHouseModel$Cores", "activate", "(IJ)I"⟩ ∈ GT := gt_15 (List.mem_of_getElem? (i := 170) rfl) rfl
theorem wd_3531 : Cond.instanceMethod ⟨"CarHouseModel$Cores", "activate", "(IJ)I"⟩ ∈ GT := gt_15 (List.mem_of_getElem? (i := 171) rfl) rfl
theorem wd_3532 : Cond.selects "CarHouseModel$Cores" ⟨"CarHouseModel$Cores", "activate", "(IJ)I"⟩ ⟨"CarHouseModel$Cores", "activate", "(IJ)I"⟩ ∈ GT := gt_15 (List.mem_of_getElem? (i := 172) rfl) rfl
theorem wd_3533 : Cond.code ⟨"CarHouseModel$Cores", "activate", "(IJ)I"⟩ prog_18_method_8_code 4 (some .int) ∈ GT := gt_15 (List.mem_of_getElem? (i := 173) rfl) rfl
theorem wd_3534 : Cond.methodLink "CarHouseLaw" 127 ⟨"CarHouseModel", "run", "(I)I"⟩ ∈ GT := gt_15 (List.mem_of_getElem? (i := 174) rfl) rfl
theorem wd_3535 : Cond.instanceMethod ⟨"CarHouseModel", "run", "(I)I"⟩ ∈ GT := gt_15 (List.mem_of_getElem? (i := 175) rfl) rfl
theorem wd_3536 : Cond.selects "CarHouseModel" ⟨"CarHouseModel", "run", "(I)I"⟩ ⟨"CarHouseModel", "run", "(I)I"⟩ ∈ GT := gt_15 (List.mem_of_getElem? (i := 176) rfl) rfl
theorem wd_3537 : Cond.code ⟨"CarHouseModel", "run", "(I)I"⟩ prog_14_method_73_code 4 (some .int) ∈ GT := gt_15 (List.mem_of_getElem? (i := 177) rfl) rfl
theorem wd_3538 : Cond.methodLink "CarHouseModel" 807 ⟨"CarHouseModel$Bus", "done", "(II)I"⟩ ∈ GT := gt_15 (List.mem_of_getElem? (i := 178) rfl) rfl
theorem wd_3539 : Cond.instanceMethod ⟨"CarHouseModel$Bus", "done", "(II)I"⟩ ∈ GT := gt_15 (List.mem_of_getElem? (i := 179) rfl) rfl
theorem wd_3540 : Cond.selects "CarHouseModel$Bus" ⟨"CarHouseModel$Bus", "done", "(II)I"⟩ ⟨"CarHouseModel$Bus", "done", "(II)I"⟩ ∈ GT := gt_15 (List.mem_of_getElem? (i := 180) rfl) rfl
theorem wd_3541 : Cond.code ⟨"CarHouseModel$Bus", "done", "(II)I"⟩ prog_15_method_48_code 3 (some .int) ∈ GT := gt_15 (List.mem_of_getElem? (i := 181) rfl) rfl
theorem wd_3542 : Cond.methodLink "CarHouseModel" 809 ⟨"CarHouseModel", "microsecond", "()V"⟩ ∈ GT := gt_15 (List.mem_of_getElem? (i := 182) rfl) rfl
theorem wd_3544 : Cond.instanceMethod ⟨"CarHouseModel", "microsecond", "()V"⟩ ∈ GT := gt_15 (List.mem_of_getElem? (i := 184) rfl) rfl
theorem wd_3545 : Cond.code ⟨"CarHouseModel", "microsecond", "()V"⟩ prog_14_method_72_code 6 none ∈ GT := gt_15 (List.mem_of_getElem? (i := 185) rfl) rfl
theorem wd_3546 : Cond.methodLink "CarHouseModel" 786 ⟨"CarHouseModel", "send", "(I)V"⟩ ∈ GT := gt_15 (List.mem_of_getElem? (i := 186) rfl) rfl
theorem wd_3548 : Cond.instanceMethod ⟨"CarHouseModel", "send", "(I)V"⟩ ∈ GT := gt_15 (List.mem_of_getElem? (i := 188) rfl) rfl
theorem wd_3549 : Cond.code ⟨"CarHouseModel", "send", "(I)V"⟩ prog_14_method_53_code 5 none ∈ GT := gt_15 (List.mem_of_getElem? (i := 189) rfl) rfl
theorem wd_3550 : Cond.methodLink "CarHouseModel" 661 ⟨"CarHouseModel$Chart", "value", "(I)J"⟩ ∈ GT := gt_15 (List.mem_of_getElem? (i := 190) rfl) rfl
theorem wd_3551 : Cond.instanceMethod ⟨"CarHouseModel$Chart", "value", "(I)J"⟩ ∈ GT := gt_15 (List.mem_of_getElem? (i := 191) rfl) rfl
theorem wd_3552 : Cond.selects "CarHouseModel$Chart" ⟨"CarHouseModel$Chart", "value", "(I)J"⟩ ⟨"CarHouseModel$Chart", "value", "(I)J"⟩ ∈ GT := gt_15 (List.mem_of_getElem? (i := 192) rfl) rfl
theorem wd_3553 : Cond.code ⟨"CarHouseModel$Chart", "value", "(I)J"⟩ prog_16_method_36_code 2 (some .long) ∈ GT := gt_15 (List.mem_of_getElem? (i := 193) rfl) rfl
theorem wd_3554 : Cond.methodLink "CarHouseModel" 665 ⟨"CarHouseModel$Pack", "put", "(IJ)V"⟩ ∈ GT := gt_15 (List.mem_of_getElem? (i := 194) rfl) rfl
theorem wd_3555 : Cond.instanceMethod ⟨"CarHouseModel$Pack", "put", "(IJ)V"⟩ ∈ GT := gt_15 (List.mem_of_getElem? (i := 195) rfl) rfl
theorem wd_3556 : Cond.selects "CarHouseModel$Pack" ⟨"CarHouseModel$Pack", "put", "(IJ)V"⟩ ⟨"CarHouseModel$Pack", "put", "(IJ)V"⟩ ∈ GT := gt_15 (List.mem_of_getElem? (i := 196) rfl) rfl
theorem wd_3557 : Cond.code ⟨"CarHouseModel$Pack", "put", "(IJ)V"⟩ prog_19_method_33_code 5 none ∈ GT := gt_15 (List.mem_of_getElem? (i := 197) rfl) rfl
theorem wd_3558 : Cond.methodLink "CarHouseModel$Pack" 164 ⟨"CarHouseModel$Pack", "write", "(IJ)V"⟩ ∈ GT := gt_15 (List.mem_of_getElem? (i := 198) rfl) rfl
theorem wd_3560 : Cond.instanceMethod ⟨"CarHouseModel$Pack", "write", "(IJ)V"⟩ ∈ GT := gt_15 (List.mem_of_getElem? (i := 200) rfl) rfl
theorem wd_3561 : Cond.code ⟨"CarHouseModel$Pack", "write", "(IJ)V"⟩ prog_19_method_31_code 7 none ∈ GT := gt_15 (List.mem_of_getElem? (i := 201) rfl) rfl
theorem wd_3562 : Cond.methodLink "CarHouseModel$Pack" 161 ⟨"CarHouseModel$Pack", "where", "(II)I"⟩ ∈ GT := gt_15 (List.mem_of_getElem? (i := 202) rfl) rfl
theorem wd_3564 : Cond.instanceMethod ⟨"CarHouseModel$Pack", "where", "(II)I"⟩ ∈ GT := gt_15 (List.mem_of_getElem? (i := 204) rfl) rfl
theorem wd_3565 : Cond.code ⟨"CarHouseModel$Pack", "where", "(II)I"⟩ prog_19_method_29_code 4 (some .int) ∈ GT := gt_15 (List.mem_of_getElem? (i := 205) rfl) rfl
theorem wd_3566 : Cond.methodLink "CarHouseModel" 669 ⟨"CarHouseModel$Pack", "octet", "(II)B"⟩ ∈ GT := gt_15 (List.mem_of_getElem? (i := 206) rfl) rfl
theorem wd_3567 : Cond.instanceMethod ⟨"CarHouseModel$Pack", "octet", "(II)B"⟩ ∈ GT := gt_15 (List.mem_of_getElem? (i := 207) rfl) rfl
theorem wd_3568 : Cond.selects "CarHouseModel$Pack" ⟨"CarHouseModel$Pack", "octet", "(II)B"⟩ ⟨"CarHouseModel$Pack", "octet", "(II)B"⟩ ∈ GT := gt_15 (List.mem_of_getElem? (i := 208) rfl) rfl
theorem wd_3569 : Cond.code ⟨"CarHouseModel$Pack", "octet", "(II)B"⟩ prog_19_method_35_code 3 (some .byte) ∈ GT := gt_15 (List.mem_of_getElem? (i := 209) rfl) rfl
theorem wd_3570 : Cond.methodLink "CarHouseModel$Pack" 168 ⟨"CarHouseModel$Pack", "noFrame", "(I)Z"⟩ ∈ GT := gt_15 (List.mem_of_getElem? (i := 210) rfl) rfl
theorem wd_3572 : Cond.instanceMethod ⟨"CarHouseModel$Pack", "noFrame", "(I)Z"⟩ ∈ GT := gt_15 (List.mem_of_getElem? (i := 212) rfl) rfl
theorem wd_3573 : Cond.code ⟨"CarHouseModel$Pack", "noFrame", "(I)Z"⟩ prog_19_method_34_code 2 (some .boolean) ∈ GT := gt_15 (List.mem_of_getElem? (i := 213) rfl) rfl
theorem wd_3574 : Cond.methodLink "CarHouseModel" 672 ⟨"CarHouseModel", "codeOf", "(IJ)V"⟩ ∈ GT := gt_15 (List.mem_of_getElem? (i := 214) rfl) rfl
theorem wd_3576 : Cond.instanceMethod ⟨"CarHouseModel", "codeOf", "(IJ)V"⟩ ∈ GT := gt_15 (List.mem_of_getElem? (i := 216) rfl) rfl
theorem wd_3577 : Cond.code ⟨"CarHouseModel", "codeOf", "(IJ)V"⟩ prog_14_method_52_code 5 none ∈ GT := gt_15 (List.mem_of_getElem? (i := 217) rfl) rfl
theorem wd_3578 : Cond.methodLink "CarHouseModel" 656 ⟨"CarHouseModel$Codes", "octet", "(B)V"⟩ ∈ GT := gt_15 (List.mem_of_getElem? (i := 218) rfl) rfl
theorem wd_3579 : Cond.instanceMethod ⟨"CarHouseModel$Codes", "octet", "(B)V"⟩ ∈ GT := gt_15 (List.mem_of_getElem? (i := 219) rfl) rfl
theorem wd_3580 : Cond.selects "CarHouseModel$Codes" ⟨"CarHouseModel$Codes", "octet", "(B)V"⟩ ⟨"CarHouseModel$Codes", "octet", "(B)V"⟩ ∈ GT := gt_15 (List.mem_of_getElem? (i := 220) rfl) rfl
theorem wd_3581 : Cond.code ⟨"CarHouseModel$Codes", "octet", "(B)V"⟩ prog_17_method_13_code 2 none ∈ GT := gt_15 (List.mem_of_getElem? (i := 221) rfl) rfl
theorem wd_3582 : Cond.methodLink "CarHouseModel" 659 ⟨"CarHouseModel$Codes", "code", "(II)I"⟩ ∈ GT := gt_15 (List.mem_of_getElem? (i := 222) rfl) rfl
theorem wd_3583 : Cond.instanceMethod ⟨"CarHouseModel$Codes", "code", "(II)I"⟩ ∈ GT := gt_15 (List.mem_of_getElem? (i := 223) rfl) rfl
theorem wd_3584 : Cond.selects "CarHouseModel$Codes" ⟨"CarHouseModel$Codes", "code", "(II)I"⟩ ⟨"CarHouseModel$Codes", "code", "(II)I"⟩ ∈ GT := gt_15 (List.mem_of_getElem? (i := 224) rfl) rfl
theorem wd_3585 : Cond.code ⟨"CarHouseModel$Codes", "code", "(II)I"⟩ prog_17_method_15_code 5 (some .int) ∈ GT := gt_15 (List.mem_of_getElem? (i := 225) rfl) rfl
theorem wd_3586 : Cond.methodLink "CarHouseModel$Codes" 92 ⟨"CarHouseModel$Codes", "codeOf", "(II)V"⟩ ∈ GT := gt_15 (List.mem_of_getElem? (i := 226) rfl) rfl
theorem wd_3588 : Cond.instanceMethod ⟨"CarHouseModel$Codes", "codeOf", "(II)V"⟩ ∈ GT := gt_15 (List.mem_of_getElem? (i := 228) rfl) rfl
theorem wd_3589 : Cond.code ⟨"CarHouseModel$Codes", "codeOf", "(II)V"⟩ prog_17_method_10_code 8 none ∈ GT := gt_15 (List.mem_of_getElem? (i := 229) rfl) rfl
theorem wd_3590 : Cond.methodLink "CarHouseModel$Codes" 76 ⟨"CarHouseModel$Codes", "cipher", "(I)V"⟩ ∈ GT := gt_15 (List.mem_of_getElem? (i := 230) rfl) rfl
theorem wd_3592 : Cond.instanceMethod ⟨"CarHouseModel$Codes", "cipher", "(I)V"⟩ ∈ GT := gt_15 (List.mem_of_getElem? (i := 232) rfl) rfl
theorem wd_3593 : Cond.code ⟨"CarHouseModel$Codes", "cipher", "(I)V"⟩ prog_17_method_8_code 6 none ∈ GT := gt_15 (List.mem_of_getElem? (i := 233) rfl) rfl
theorem wd_3594 : Cond.methodLink "CarHouseModel$Codes" 72 ⟨"CarHouseModel$Codes", "makeRound", "(I)V"⟩ ∈ GT := gt_15 (List.mem_of_getElem? (i := 234) rfl) rfl
theorem wd_3596 : Cond.instanceMethod ⟨"CarHouseModel$Codes", "makeRound", "(I)V"⟩ ∈ GT := gt_15 (List.mem_of_getElem? (i := 236) rfl) rfl
theorem wd_3597 : Cond.code ⟨"CarHouseModel$Codes", "makeRound", "(I)V"⟩ prog_17_method_7_code 7 none ∈ GT := gt_15 (List.mem_of_getElem? (i := 237) rfl) rfl
theorem wd_3598 : Cond.methodLink "CarHouseModel$Codes" 69 ⟨"CarHouseModel$Codes", "substitute", "(I)I"⟩ ∈ GT := gt_15 (List.mem_of_getElem? (i := 238) rfl) rfl
theorem wd_3600 : Cond.instanceMethod ⟨"CarHouseModel$Codes", "substitute", "(I)I"⟩ ∈ GT := gt_16 (List.mem_of_getElem? (i := 0) rfl) rfl
theorem wd_3601 : Cond.code ⟨"CarHouseModel$Codes", "substitute", "(I)I"⟩ prog_17_method_2_code 2 (some .int) ∈ GT := gt_16 (List.mem_of_getElem? (i := 1) rfl) rfl
theorem wd_3602 : Cond.methodLink "CarHouseModel$Codes" 79 ⟨"CarHouseModel$Codes", "doubled", "()V"⟩ ∈ GT := gt_16 (List.mem_of_getElem? (i := 2) rfl) rfl
theorem wd_3604 : Cond.instanceMethod ⟨"CarHouseModel$Codes", "doubled", "()V"⟩ ∈ GT := gt_16 (List.mem_of_getElem? (i := 4) rfl) rfl
theorem wd_3605 : Cond.code ⟨"CarHouseModel$Codes", "doubled", "()V"⟩ prog_17_method_9_code 4 none ∈ GT := gt_16 (List.mem_of_getElem? (i := 5) rfl) rfl
theorem wd_3606 : Cond.methodLink "CarHouseModel$Codes" 96 ⟨"CarHouseModel$Codes", "tell", "(I)I"⟩ ∈ GT := gt_16 (List.mem_of_getElem? (i := 6) rfl) rfl
theorem wd_3608 : Cond.instanceMethod ⟨"CarHouseModel$Codes", "tell", "(I)I"⟩ ∈ GT := gt_16 (List.mem_of_getElem? (i := 8) rfl) rfl
theorem wd_3609 : Cond.code ⟨"CarHouseModel$Codes", "tell", "(I)I"⟩ prog_17_method_14_code 3 (some .int) ∈ GT := gt_16 (List.mem_of_getElem? (i := 9) rfl) rfl
theorem wd_3610 : Cond.methodLink "CarHouseModel" 675 ⟨"CarHouseModel$Codes", "out", "(I)B"⟩ ∈ GT := gt_16 (List.mem_of_getElem? (i := 10) rfl) rfl
theorem wd_3611 : Cond.instanceMethod ⟨"CarHouseModel$Codes", "out", "(I)B"⟩ ∈ GT := gt_16 (List.mem_of_getElem? (i := 11) rfl) rfl
theorem wd_3612 : Cond.selects "CarHouseModel$Codes" ⟨"CarHouseModel$Codes", "out", "(I)B"⟩ ⟨"CarHouseModel$Codes", "out", "(I)B"⟩ ∈ GT := gt_16 (List.mem_of_getElem? (i := 12) rfl) rfl
theorem wd_3613 : Cond.code ⟨"CarHouseModel$Codes", "out", "(I)B"⟩ prog_17_method_16_code 2 (some .byte) ∈ GT := gt_16 (List.mem_of_getElem? (i := 13) rfl) rfl
theorem wd_3614 : Cond.methodLink "CarHouseModel" 679 ⟨"CarHouseModel", "put", "(III)Z"⟩ ∈ GT := gt_16 (List.mem_of_getElem? (i := 14) rfl) rfl
theorem wd_3616 : Cond.instanceMethod ⟨"CarHouseModel", "put", "(III)Z"⟩ ∈ GT := gt_16 (List.mem_of_getElem? (i := 16) rfl) rfl
theorem wd_3617 : Cond.code ⟨"CarHouseModel", "put", "(III)Z"⟩ prog_14_method_51_code 6 (some .boolean) ∈ GT := gt_16 (List.mem_of_getElem? (i := 17) rfl) rfl
theorem wd_3618 : Cond.methodLink "CarHouseModel" 646 ⟨"CarHouseModel$Bus", "send", "(IIII)I"⟩ ∈ GT := gt_16 (List.mem_of_getElem? (i := 18) rfl) rfl
theorem wd_3619 : Cond.instanceMethod ⟨"CarHouseModel$Bus", "send", "(IIII)I"⟩ ∈ GT := gt_16 (List.mem_of_getElem? (i := 19) rfl) rfl
theorem wd_3620 : Cond.selects "CarHouseModel$Bus" ⟨"CarHouseModel$Bus", "send", "(IIII)I"⟩ ⟨"CarHouseModel$Bus", "send", "(IIII)I"⟩ ∈ GT := gt_16 (List.mem_of_getElem? (i := 20) rfl) rfl
theorem wd_3621 : Cond.code ⟨"CarHouseModel$Bus", "send", "(IIII)I"⟩ prog_15_method_6_code 7 (some .int) ∈ GT := gt_16 (List.mem_of_getElem? (i := 21) rfl) rfl
theorem wd_3622 : Cond.constant "CarHouseModel$Bus" 138 536870912 ∈ GT := gt_16 (List.mem_of_getElem? (i := 22) rfl) rfl
theorem wd_3623 : Cond.methodLink "CarHouseModel$Bus" 139 ⟨"CarHouseModel$Bus", "noNode", "(I)Z"⟩ ∈ GT := gt_16 (List.mem_of_getElem? (i := 23) rfl) rfl
theorem wd_3625 : Cond.instanceMethod ⟨"CarHouseModel$Bus", "noNode", "(I)Z"⟩ ∈ GT := gt_16 (List.mem_of_getElem? (i := 25) rfl) rfl
theorem wd_3626 : Cond.code ⟨"CarHouseModel$Bus", "noNode", "(I)Z"⟩ prog_15_method_5_code 2 (some .boolean) ∈ GT := gt_16 (List.mem_of_getElem? (i := 26) rfl) rfl
theorem wd_3627 : Cond.methodLink "CarHouseModel" 649 ⟨"CarHouseModel$Bus", "thrown", "()I"⟩ ∈ GT := gt_16 (List.mem_of_getElem? (i := 27) rfl) rfl
theorem wd_3628 : Cond.instanceMethod ⟨"CarHouseModel$Bus", "thrown", "()I"⟩ ∈ GT := gt_16 (List.mem_of_getElem? (i := 28) rfl) rfl
theorem wd_3629 : Cond.selects "CarHouseModel$Bus" ⟨"CarHouseModel$Bus", "thrown", "()I"⟩ ⟨"CarHouseModel$Bus", "thrown", "()I"⟩ ∈ GT := gt_16 (List.mem_of_getElem? (i := 29) rfl) rfl
theorem wd_3630 : Cond.code ⟨"CarHouseModel$Bus", "thrown", "()I"⟩ prog_15_method_2_code 1 (some .int) ∈ GT := gt_16 (List.mem_of_getElem? (i := 30) rfl) rfl
theorem wd_3631 : Cond.methodLink "CarHouseModel" 652 ⟨"CarHouseModel$Bus", "octet", "(III)V"⟩ ∈ GT := gt_16 (List.mem_of_getElem? (i := 31) rfl) rfl
theorem wd_3632 : Cond.instanceMethod ⟨"CarHouseModel$Bus", "octet", "(III)V"⟩ ∈ GT := gt_16 (List.mem_of_getElem? (i := 32) rfl) rfl
theorem wd_3633 : Cond.selects "CarHouseModel$Bus" ⟨"CarHouseModel$Bus", "octet", "(III)V"⟩ ⟨"CarHouseModel$Bus", "octet", "(III)V"⟩ ∈ GT := gt_16 (List.mem_of_getElem? (i := 33) rfl) rfl
theorem wd_3634 : Cond.code ⟨"CarHouseModel$Bus", "octet", "(III)V"⟩ prog_15_method_8_code 4 none ∈ GT := gt_16 (List.mem_of_getElem? (i := 34) rfl) rfl
theorem wd_3635 : Cond.methodLink "CarHouseModel$Bus" 143 ⟨"CarHouseModel$Bus", "noFrame", "(I)Z"⟩ ∈ GT := gt_16 (List.mem_of_getElem? (i := 35) rfl) rfl
theorem wd_3637 : Cond.instanceMethod ⟨"CarHouseModel$Bus", "noFrame", "(I)Z"⟩ ∈ GT := gt_16 (List.mem_of_getElem? (i := 37) rfl) rfl
theorem wd_3638 : Cond.code ⟨"CarHouseModel$Bus", "noFrame", "(I)Z"⟩ prog_15_method_7_code 2 (some .boolean) ∈ GT := gt_16 (List.mem_of_getElem? (i := 38) rfl) rfl
theorem wd_3639 : Cond.methodLink "CarHouseModel$Bus" 146 ⟨"CarHouseModel$Bus", "octetsOf", "(II)I"⟩ ∈ GT := gt_16 (List.mem_of_getElem? (i := 39) rfl) rfl
theorem wd_3640 : Cond.static ⟨"CarHouseModel$Bus", "octetsOf", "(II)I"⟩ ∈ GT := gt_16 (List.mem_of_getElem? (i := 40) rfl) rfl
theorem wd_3641 : Cond.code ⟨"CarHouseModel$Bus", "octetsOf", "(II)I"⟩ prog_15_method_4_code 2 (some .int) ∈ GT := gt_16 (List.mem_of_getElem? (i := 41) rfl) rfl
theorem wd_3642 : Cond.methodLink "CarHouseModel" 788 ⟨"CarHouseModel$Bus", "run", "(I)I"⟩ ∈ GT := gt_16 (List.mem_of_getElem? (i := 42) rfl) rfl
theorem wd_3643 : Cond.instanceMethod ⟨"CarHouseModel$Bus", "run", "(I)I"⟩ ∈ GT := gt_16 (List.mem_of_getElem? (i := 43) rfl) rfl
theorem wd_3644 : Cond.selects "CarHouseModel$Bus" ⟨"CarHouseModel$Bus", "run", "(I)I"⟩ ⟨"CarHouseModel$Bus", "run", "(I)I"⟩ ∈ GT := gt_16 (List.mem_of_getElem? (i := 44) rfl) rfl
theorem wd_3645 : Cond.code ⟨"CarHouseModel$Bus", "run", "(I)I"⟩ prog_15_method_43_code 6 (some .int) ∈ GT := gt_16 (List.mem_of_getElem? (i := 45) rfl) rfl
theorem wd_3646 : Cond.methodLink "CarHouseModel$Bus" 276 ⟨"CarHouseModel$Bus", "puts", "(I)I"⟩ ∈ GT := gt_16 (List.mem_of_getElem? (i := 46) rfl) rfl
theorem wd_3648 : Cond.instanceMethod ⟨"CarHouseModel$Bus", "puts", "(I)I"⟩ ∈ GT := gt_16 (List.mem_of_getElem? (i := 48) rfl) rfl
theorem wd_3649 : Cond.code ⟨"CarHouseModel$Bus", "puts", "(I)I"⟩ prog_15_method_36_code 2 (some .int) ∈ GT := gt_16 (List.mem_of_getElem? (i := 49) rfl) rfl
theorem wd_3650 : Cond.methodLink "CarHouseModel$Bus" 248 ⟨"CarHouseModel$Bus", "first", "(I)I"⟩ ∈ GT := gt_16 (List.mem_of_getElem? (i := 50) rfl) rfl
theorem wd_3652 : Cond.instanceMethod ⟨"CarHouseModel$Bus", "first", "(I)I"⟩ ∈ GT := gt_16 (List.mem_of_getElem? (i := 52) rfl) rfl
theorem wd_3653 : Cond.code ⟨"CarHouseModel$Bus", "first", "(I)I"⟩ prog_15_method_21_code 8 (some .int) ∈ GT := gt_16 (List.mem_of_getElem? (i := 53) rfl) rfl
theorem wd_3654 : Cond.methodLink "CarHouseModel$Bus" 174 ⟨"CarHouseModel$Bus", "writePlain", "(I)V"⟩ ∈ GT := gt_16 (List.mem_of_getElem? (i := 54) rfl) rfl
theorem wd_3656 : Cond.instanceMethod ⟨"CarHouseModel$Bus", "writePlain", "(I)V"⟩ ∈ GT := gt_16 (List.mem_of_getElem? (i := 56) rfl) rfl
theorem wd_3657 : Cond.code ⟨"CarHouseModel$Bus", "writePlain", "(I)V"⟩ prog_15_method_10_code 6 none ∈ GT := gt_16 (List.mem_of_getElem? (i := 57) rfl) rfl
theorem wd_3658 : Cond.methodLink "CarHouseModel$Bus" 153 ⟨"CarHouseModel$Bus", "bits", "(II)V"⟩ ∈ GT := gt_16 (List.mem_of_getElem? (i := 58) rfl) rfl
theorem wd_3660 : Cond.instanceMethod ⟨"CarHouseModel$Bus", "bits", "(II)V"⟩ ∈ GT := gt_16 (List.mem_of_getElem? (i := 60) rfl) rfl
theorem wd_3661 : Cond.code ⟨"CarHouseModel$Bus", "bits", "(II)V"⟩ prog_15_method_9_code 4 none ∈ GT := gt_16 (List.mem_of_getElem? (i := 61) rfl) rfl
theorem wd_3662 : Cond.constant "CarHouseModel$Bus" 157 262143 ∈ GT := gt_16 (List.mem_of_getElem? (i := 62) rfl) rfl
theorem wd_3663 : Cond.methodLink "CarHouseModel$Bus" 200 ⟨"CarHouseModel$Bus", "write", "(I)V"⟩ ∈ GT := gt_16 (List.mem_of_getElem? (i := 63) rfl) rfl
theorem wd_3665 : Cond.instanceMethod ⟨"CarHouseModel$Bus", "write", "(I)V"⟩ ∈ GT := gt_16 (List.mem_of_getElem? (i := 65) rfl) rfl
theorem wd_3666 : Cond.code ⟨"CarHouseModel$Bus", "write", "(I)V"⟩ prog_15_method_17_code 2 none ∈ GT := gt_16 (List.mem_of_getElem? (i := 66) rfl) rfl
theorem wd_3667 : Cond.methodLink "CarHouseModel$Bus" 170 ⟨"CarHouseModel$Bus", "writeAnew", "(I)V"⟩ ∈ GT := gt_16 (List.mem_of_getElem? (i := 67) rfl) rfl
theorem wd_3669 : Cond.instanceMethod ⟨"CarHouseModel$Bus", "writeAnew", "(I)V"⟩ ∈ GT := gt_16 (List.mem_of_getElem? (i := 69) rfl) rfl
theorem wd_3670 : Cond.code ⟨"CarHouseModel$Bus", "writeAnew", "(I)V"⟩ prog_15_method_18_code 9 none ∈ GT := gt_16 (List.mem_of_getElem? (i := 70) rfl) rfl
theorem wd_3671 : Cond.methodLink "CarHouseModel$Bus" 177 ⟨"CarHouseModel$Bus", "check", "(I)V"⟩ ∈ GT := gt_16 (List.mem_of_getElem? (i := 71) rfl) rfl
theorem wd_3673 : Cond.instanceMethod ⟨"CarHouseModel$Bus", "check", "(I)V"⟩ ∈ GT := gt_16 (List.mem_of_getElem? (i := 73) rfl) rfl
theorem wd_3674 : Cond.code ⟨"CarHouseModel$Bus", "check", "(I)V"⟩ prog_15_method_12_code 2 none ∈ GT := gt_16 (List.mem_of_getElem? (i := 74) rfl) rfl
theorem wd_3675 : Cond.methodLink "CarHouseModel$Bus" 180 ⟨"CarHouseModel$Bus", "checkOf", "(I)I"⟩ ∈ GT := gt_16 (List.mem_of_getElem? (i := 75) rfl) rfl
theorem wd_3677 : Cond.instanceMethod ⟨"CarHouseModel$Bus", "checkOf", "(I)I"⟩ ∈ GT := gt_16 (List.mem_of_getElem? (i := 77) rfl) rfl
theorem wd_3678 : Cond.code ⟨"CarHouseModel$Bus", "checkOf", "(I)I"⟩ prog_15_method_11_code 7 (some .int) ∈ GT := gt_16 (List.mem_of_getElem? (i := 78) rfl) rfl
theorem wd_3679 : Cond.constant "CarHouseModel$Bus" 158 92251 ∈ GT := gt_16 (List.mem_of_getElem? (i := 79) rfl) rfl
theorem wd_3680 : Cond.constant "CarHouseModel$Bus" 159 1058969 ∈ GT := gt_16 (List.mem_of_getElem? (i := 80) rfl) rfl
theorem wd_3681 : Cond.methodLink "CarHouseModel$Bus" 183 ⟨"CarHouseModel$Bus", "put", "(IZ)V"⟩ ∈ GT := gt_16 (List.mem_of_getElem? (i := 81) rfl) rfl
theorem wd_3683 : Cond.instanceMethod ⟨"CarHouseModel$Bus", "put", "(IZ)V"⟩ ∈ GT := gt_16 (List.mem_of_getElem? (i := 83) rfl) rfl
theorem wd_3684 : Cond.code ⟨"CarHouseModel$Bus", "put", "(IZ)V"⟩ prog_15_method_13_code 3 none ∈ GT := gt_16 (List.mem_of_getElem? (i := 84) rfl) rfl
theorem wd_3685 : Cond.methodLink "CarHouseModel$Bus" 190 ⟨"CarHouseModel$Bus", "five", "()Z"⟩ ∈ GT := gt_16 (List.mem_of_getElem? (i := 85) rfl) rfl
theorem wd_3687 : Cond.instanceMethod ⟨"CarHouseModel$Bus", "five", "()Z"⟩ ∈ GT := gt_16 (List.mem_of_getElem? (i := 87) rfl) rfl
theorem wd_3688 : Cond.code ⟨"CarHouseModel$Bus", "five", "()Z"⟩ prog_15_method_14_code 3 (some .boolean) ∈ GT := gt_16 (List.mem_of_getElem? (i := 88) rfl) rfl
theorem wd_3689 : Cond.methodLink "CarHouseModel$Bus" 194 ⟨"CarHouseModel$Bus", "countOf", "(I)I"⟩ ∈ GT := gt_16 (List.mem_of_getElem? (i := 89) rfl) rfl
theorem wd_3690 : Cond.static ⟨"CarHouseModel$Bus", "countOf", "(I)I"⟩ ∈ GT := gt_16 (List.mem_of_getElem? (i := 90) rfl) rfl
theorem wd_3691 : Cond.code ⟨"CarHouseModel$Bus", "countOf", "(I)I"⟩ prog_15_method_16_code 3 (some .int) ∈ GT := gt_16 (List.mem_of_getElem? (i := 91) rfl) rfl
theorem wd_3692 : Cond.methodLink "CarHouseModel$Bus" 166 ⟨"CarHouseModel$Bus", "parity", "(I)I"⟩ ∈ GT := gt_16 (List.mem_of_getElem? (i := 92) rfl) rfl
theorem wd_3693 : Cond.static ⟨"CarHouseModel$Bus", "parity", "(I)I"⟩ ∈ GT := gt_16 (List.mem_of_getElem? (i := 93) rfl) rfl
theorem wd_3694 : Cond.code ⟨"CarHouseModel$Bus", "parity", "(I)I"⟩ prog_15_method_15_code 1 (some .int) ∈ GT := gt_16 (List.mem_of_getElem? (i := 94) rfl) rfl
theorem wd_3695 : Cond.methodLink "CarHouseModel$Bus" 197 ⟨"CarHouseModel$Bus", "writeTail", "(II)V"⟩ ∈ GT := gt_16 (List.mem_of_getElem? (i := 95) rfl) rfl
theorem wd_3697 : Cond.instanceMethod ⟨"CarHouseModel$Bus", "writeTail", "(II)V"⟩ ∈ GT := gt_16 (List.mem_of_getElem? (i := 97) rfl) rfl
theorem wd_3698 : Cond.code ⟨"CarHouseModel$Bus", "writeTail", "(II)V"⟩ prog_15_method_19_code 5 none ∈ GT := gt_16 (List.mem_of_getElem? (i := 98) rfl) rfl
theorem wd_3699 : Cond.methodLink "CarHouseModel$Bus" 251 ⟨"CarHouseModel$Bus", "answers", "(I)Z"⟩ ∈ GT := gt_16 (List.mem_of_getElem? (i := 99) rfl) rfl
theorem wd_3701 : Cond.instanceMethod ⟨"CarHouseModel$Bus", "answers", "(I)Z"⟩ ∈ GT := gt_16 (List.mem_of_getElem? (i := 101) rfl) rfl
theorem wd_3702 : Cond.code ⟨"CarHouseModel$Bus", "answers", "(I)Z"⟩ prog_15_method_34_code 3 (some .boolean) ∈ GT := gt_16 (List.mem_of_getElem? (i := 102) rfl) rfl
theorem wd_3703 : Cond.methodLink "CarHouseModel$Bus" 242 ⟨"CarHouseModel$Bus", "body", "(I)I"⟩ ∈ GT := gt_16 (List.mem_of_getElem? (i := 103) rfl) rfl
theorem wd_3705 : Cond.instanceMethod ⟨"CarHouseModel$Bus", "body", "(I)I"⟩ ∈ GT := gt_16 (List.mem_of_getElem? (i := 105) rfl) rfl
theorem wd_3706 : Cond.code ⟨"CarHouseModel$Bus", "body", "(I)I"⟩ prog_15_method_26_code 4 (some .int) ∈ GT := gt_16 (List.mem_of_getElem? (i := 106) rfl) rfl
theorem wd_3707 : Cond.methodLink "CarHouseModel$Bus" 206 ⟨"CarHouseModel$Bus", "bodyAnew", "(I)I"⟩ ∈ GT := gt_16 (List.mem_of_getElem? (i := 107) rfl) rfl
theorem wd_3709 : Cond.instanceMethod ⟨"CarHouseModel$Bus", "bodyAnew", "(I)I"⟩ ∈ GT := gt_16 (List.mem_of_getElem? (i := 109) rfl) rfl
theorem wd_3710 : Cond.code ⟨"CarHouseModel$Bus", "bodyAnew", "(I)I"⟩ prog_15_method_27_code 13 (some .int) ∈ GT := gt_16 (List.mem_of_getElem? (i := 110) rfl) rfl
theorem wd_3711 : Cond.methodLink "CarHouseModel$Bus" 215 ⟨"CarHouseModel$Bus", "bitAt", "(II)I"⟩ ∈ GT := gt_16 (List.mem_of_getElem? (i := 111) rfl) rfl
theorem wd_3713 : Cond.instanceMethod ⟨"CarHouseModel$Bus", "bitAt", "(II)I"⟩ ∈ GT := gt_16 (List.mem_of_getElem? (i := 113) rfl) rfl
theorem wd_3714 : Cond.code ⟨"CarHouseModel$Bus", "bitAt", "(II)I"⟩ prog_15_method_25_code 3 (some .int) ∈ GT := gt_16 (List.mem_of_getElem? (i := 114) rfl) rfl
theorem wd_3715 : Cond.methodLink "CarHouseModel$Bus" 218 ⟨"CarHouseModel$Bus", "find", "(ZZI)V"⟩ ∈ GT := gt_16 (List.mem_of_getElem? (i := 115) rfl) rfl
theorem wd_3717 : Cond.instanceMethod ⟨"CarHouseModel$Bus", "find", "(ZZI)V"⟩ ∈ GT := gt_16 (List.mem_of_getElem? (i := 117) rfl) rfl
theorem wd_3718 : Cond.code ⟨"CarHouseModel$Bus", "find", "(ZZI)V"⟩ prog_15_method_29_code 5 none ∈ GT := gt_16 (List.mem_of_getElem? (i := 118) rfl) rfl
theorem wd_3719 : Cond.methodLink "CarHouseModel$Bus" 228 ⟨"CarHouseModel$Bus", "number", "(II)I"⟩ ∈ GT := gt_16 (List.mem_of_getElem? (i := 119) rfl) rfl
theorem wd_3721 : Cond.instanceMethod ⟨"CarHouseModel$Bus", "number", "(II)I"⟩ ∈ GT := gt_16 (List.mem_of_getElem? (i := 121) rfl) rfl
theorem wd_3722 : Cond.code ⟨"CarHouseModel$Bus", "number", "(II)I"⟩ prog_15_method_28_code 5 (some .int) ∈ GT := gt_16 (List.mem_of_getElem? (i := 122) rfl) rfl
theorem wd_3723 : Cond.constant "CarHouseModel$Bus" 234 262144 ∈ GT := gt_16 (List.mem_of_getElem? (i := 123) rfl) rfl
theorem wd_3724 : Cond.methodLink "CarHouseModel$Bus" 239 ⟨"CarHouseModel$Bus", "tail", "()I"⟩ ∈ GT := gt_16 (List.mem_of_getElem? (i := 124) rfl) rfl
theorem wd_3726 : Cond.instanceMethod ⟨"CarHouseModel$Bus", "tail", "()I"⟩ ∈ GT := gt_16 (List.mem_of_getElem? (i := 126) rfl) rfl
theorem wd_3727 : Cond.code ⟨"CarHouseModel$Bus", "tail", "()I"⟩ prog_15_method_30_code 2 (some .int) ∈ GT := gt_16 (List.mem_of_getElem? (i := 127) rfl) rfl
theorem wd_3728 : Cond.methodLink "CarHouseModel$Bus" 235 ⟨"CarHouseModel$Bus", "width", "()I"⟩ ∈ GT := gt_16 (List.mem_of_getElem? (i := 128) rfl) rfl
theorem wd_3730 : Cond.instanceMethod ⟨"CarHouseModel$Bus", "width", "()I"⟩ ∈ GT := gt_16 (List.mem_of_getElem? (i := 130) rfl) rfl
theorem wd_3731 : Cond.code ⟨"CarHouseModel$Bus", "width", "()I"⟩ prog_15_method_31_code 1 (some .int) ∈ GT := gt_16 (List.mem_of_getElem? (i := 131) rfl) rfl
theorem wd_3732 : Cond.methodLink "CarHouseModel$Bus" 245 ⟨"CarHouseModel$Bus", "right", "(I)Z"⟩ ∈ GT := gt_16 (List.mem_of_getElem? (i := 132) rfl) rfl
theorem wd_3734 : Cond.instanceMethod ⟨"CarHouseModel$Bus", "right", "(I)Z"⟩ ∈ GT := gt_16 (List.mem_of_getElem? (i := 134) rfl) rfl
theorem wd_3735 : Cond.code ⟨"CarHouseModel$Bus", "right", "(I)Z"⟩ prog_15_method_32_code 7 (some .boolean) ∈ GT := gt_16 (List.mem_of_getElem? (i := 135) rfl) rfl
theorem wd_3736 : Cond.methodLink "CarHouseModel$Bus" 279 ⟨"CarHouseModel$Bus", "sees", "(II)V"⟩ ∈ GT := gt_16 (List.mem_of_getElem? (i := 136) rfl) rfl
theorem wd_3738 : Cond.instanceMethod ⟨"CarHouseModel$Bus", "sees", "(II)V"⟩ ∈ GT := gt_16 (List.mem_of_getElem? (i := 138) rfl) rfl
theorem wd_3739 : Cond.code ⟨"CarHouseModel$Bus", "sees", "(II)V"⟩ prog_15_method_40_code 4 none ∈ GT := gt_16 (List.mem_of_getElem? (i := 139) rfl) rfl
theorem wd_3740 : Cond.methodLink "CarHouseModel$Bus" 254 ⟨"CarHouseModel$Bus", "sent", "(II)V"⟩ ∈ GT := gt_16 (List.mem_of_getElem? (i := 140) rfl) rfl
theorem wd_3742 : Cond.instanceMethod ⟨"CarHouseModel$Bus", "sent", "(II)V"⟩ ∈ GT := gt_16 (List.mem_of_getElem? (i := 142) rfl) rfl
theorem wd_3743 : Cond.code ⟨"CarHouseModel$Bus", "sent", "(II)V"⟩ prog_15_method_42_code 7 none ∈ GT := gt_16 (List.mem_of_getElem? (i := 143) rfl) rfl
theorem wd_3744 : Cond.methodLink "CarHouseModel$Bus" 257 ⟨"CarHouseModel$Bus", "see", "(II)V"⟩ ∈ GT := gt_16 (List.mem_of_getElem? (i := 144) rfl) rfl
theorem wd_3746 : Cond.instanceMethod ⟨"CarHouseModel$Bus", "see", "(II)V"⟩ ∈ GT := gt_16 (List.mem_of_getElem? (i := 146) rfl) rfl
theorem wd_3747 : Cond.code ⟨"CarHouseModel$Bus", "see", "(II)V"⟩ prog_15_method_37_code 3 none ∈ GT := gt_16 (List.mem_of_getElem? (i := 147) rfl) rfl
theorem wd_3748 : Cond.methodLink "CarHouseModel$Bus" 270 ⟨"CarHouseModel$Bus", "wrong", "(II)V"⟩ ∈ GT := gt_16 (List.mem_of_getElem? (i := 148) rfl) rfl
theorem wd_3750 : Cond.instanceMethod ⟨"CarHouseModel$Bus", "wrong", "(II)V"⟩ ∈ GT := gt_16 (List.mem_of_getElem? (i := 150) rfl) rfl
theorem wd_3751 : Cond.code ⟨"CarHouseModel$Bus", "wrong", "(II)V"⟩ prog_15_method_38_code 3 none ∈ GT := gt_16 (List.mem_of_getElem? (i := 151) rfl) rfl
theorem wd_3752 : Cond.methodLink "CarHouseModel$Bus" 266 ⟨"CarHouseModel$Bus", "go", "(III)V"⟩ ∈ GT := gt_16 (List.mem_of_getElem? (i := 152) rfl) rfl
theorem wd_3754 : Cond.instanceMethod ⟨"CarHouseModel$Bus", "go", "(III)V"⟩ ∈ GT := gt_16 (List.mem_of_getElem? (i := 154) rfl) rfl
theorem wd_3755 : Cond.code ⟨"CarHouseModel$Bus", "go", "(III)V"⟩ prog_15_method_39_code 4 none ∈ GT := gt_16 (List.mem_of_getElem? (i := 155) rfl) rfl
theorem wd_3756 : Cond.methodLink "CarHouseModel$Bus" 260 ⟨"CarHouseModel$Bus", "read", "(I)I"⟩ ∈ GT := gt_16 (List.mem_of_getElem? (i := 156) rfl) rfl
theorem wd_3758 : Cond.instanceMethod ⟨"CarHouseModel$Bus", "read", "(I)I"⟩ ∈ GT := gt_16 (List.mem_of_getElem? (i := 158) rfl) rfl
theorem wd_3759 : Cond.code ⟨"CarHouseModel$Bus", "read", "(I)I"⟩ prog_15_method_33_code 8 (some .int) ∈ GT := gt_16 (List.mem_of_getElem? (i := 159) rfl) rfl
theorem wd_3760 : Cond.methodLink "CarHouseModel$Bus" 263 ⟨"CarHouseModel$Bus", "take", "(I)V"⟩ ∈ GT := gt_16 (List.mem_of_getElem? (i := 160) rfl) rfl
theorem wd_3762 : Cond.instanceMethod ⟨"CarHouseModel$Bus", "take", "(I)V"⟩ ∈ GT := gt_16 (List.mem_of_getElem? (i := 162) rfl) rfl
theorem wd_3763 : Cond.code ⟨"CarHouseModel$Bus", "take", "(I)V"⟩ prog_15_method_35_code 6 none ∈ GT := gt_16 (List.mem_of_getElem? (i := 163) rfl) rfl
theorem wd_3764 : Cond.methodLink "CarHouseModel$Bus" 273 ⟨"CarHouseModel$Bus", "pauses", "(II)V"⟩ ∈ GT := gt_16 (List.mem_of_getElem? (i := 164) rfl) rfl
theorem wd_3766 : Cond.instanceMethod ⟨"CarHouseModel$Bus", "pauses", "(II)V"⟩ ∈ GT := gt_16 (List.mem_of_getElem? (i := 166) rfl) rfl
theorem wd_3767 : Cond.code ⟨"CarHouseModel$Bus", "pauses", "(II)V"⟩ prog_15_method_41_code 3 none ∈ GT := gt_16 (List.mem_of_getElem? (i := 167) rfl) rfl
theorem wd_3768 : Cond.methodLink "CarHouseModel" 791 ⟨"CarHouseModel$Cores", "used", "(I)J"⟩ ∈ GT := gt_16 (List.mem_of_getElem? (i := 168) rfl) rfl
theorem wd_3769 : Cond.instanceMethod ⟨"CarHouseModel$Cores", "used", "(I)J"⟩ ∈ GT := gt_16 (List.mem_of_getElem? (i := 169) rfl) rfl
theorem wd_3770 : Cond.selects "CarHouseModel$Cores" ⟨"CarHouseModel$Cores", "used", "(I)J"⟩ ⟨"CarHouseModel$Cores", "used", "(I)J"⟩ ∈ GT := gt_16 (List.mem_of_getElem? (i := 170) rfl) rfl
theorem wd_3771 : Cond.code ⟨"CarHouseModel$Cores", "used", "(I)J"⟩ prog_18_method_32_code 2 (some .long) ∈ GT := gt_16 (List.mem_of_getElem? (i := 171) rfl) rfl
theorem wd_3772 : Cond.constantLong "CarHouseModel$Cores" 230 (-1) ∈ GT := gt_16 (List.mem_of_getElem? (i := 172) rfl) rfl
theorem wd_3773 : Cond.methodLink "CarHouseModel" 794 ⟨"CarHouseModel$Cores", "run", "(J)I"⟩ ∈ GT := gt_16 (List.mem_of_getElem? (i := 173) rfl) rfl
theorem wd_3774 : Cond.instanceMethod ⟨"CarHouseModel$Cores", "run", "(J)I"⟩ ∈ GT := gt_16 (List.mem_of_getElem? (i := 174) rfl) rfl
theorem wd_3775 : Cond.selects "CarHouseModel$Cores" ⟨"CarHouseModel$Cores", "run", "(J)I"⟩ ⟨"CarHouseModel$Cores", "run", "(J)I"⟩ ∈ GT := gt_16 (List.mem_of_getElem? (i := 175) rfl) rfl
theorem wd_3776 : Cond.code ⟨"CarHouseModel$Cores", "run", "(J)I"⟩ prog_18_method_29_code 6 (some .int) ∈ GT := gt_16 (List.mem_of_getElem? (i := 176) rfl) rfl
theorem wd_3777 : Cond.methodLink "CarHouseModel$Cores" 238 ⟨"CarHouseModel$Cores", "findCeilings", "()V"⟩ ∈ GT := gt_16 (List.mem_of_getElem? (i := 177) rfl) rfl
theorem wd_3779 : Cond.instanceMethod ⟨"CarHouseModel$Cores", "findCeilings", "()V"⟩ ∈ GT := gt_16 (List.mem_of_getElem? (i := 179) rfl) rfl
theorem wd_3780 : Cond.code ⟨"CarHouseModel$Cores", "findCeilings", "()V"⟩ prog_18_method_22_code 3 none ∈ GT := gt_16 (List.mem_of_getElem? (i := 180) rfl) rfl
theorem wd_3781 : Cond.methodLink "CarHouseModel$Cores" 241 ⟨"CarHouseModel$Cores", "microsecond", "()I"⟩ ∈ GT := gt_16 (List.mem_of_getElem? (i := 181) rfl) rfl
theorem wd_3783 : Cond.instanceMethod ⟨"CarHouseModel$Cores", "microsecond", "()I"⟩ ∈ GT := gt_16 (List.mem_of_getElem? (i := 183) rfl) rfl
theorem wd_3784 : Cond.code ⟨"CarHouseModel$Cores", "microsecond", "()I"⟩ prog_18_method_28_code 8 (some .int) ∈ GT := gt_16 (List.mem_of_getElem? (i := 184) rfl) rfl
theorem wd_3785 : Cond.methodLink "CarHouseModel$Cores" 192 ⟨"CarHouseModel$Cores", "begin", "(I)V"⟩ ∈ GT := gt_16 (List.mem_of_getElem? (i := 185) rfl) rfl
theorem wd_3787 : Cond.instanceMethod ⟨"CarHouseModel$Cores", "begin", "(I)V"⟩ ∈ GT := gt_16 (List.mem_of_getElem? (i := 187) rfl) rfl
theorem wd_3788 : Cond.code ⟨"CarHouseModel$Cores", "begin", "(I)V"⟩ prog_18_method_12_code 2 none ∈ GT := gt_16 (List.mem_of_getElem? (i := 188) rfl) rfl
theorem wd_3789 : Cond.methodLink "CarHouseModel$Cores" 175 ⟨"CarHouseModel$Cores", "tell", "(II)V"⟩ ∈ GT := gt_16 (List.mem_of_getElem? (i := 189) rfl) rfl
theorem wd_3791 : Cond.instanceMethod ⟨"CarHouseModel$Cores", "tell", "(II)V"⟩ ∈ GT := gt_16 (List.mem_of_getElem? (i := 191) rfl) rfl
theorem wd_3792 : Cond.code ⟨"CarHouseModel$Cores", "tell", "(II)V"⟩ prog_18_method_10_code 3 none ∈ GT := gt_16 (List.mem_of_getElem? (i := 192) rfl) rfl
theorem wd_3793 : Cond.methodLink "CarHouseModel$Cores" 179 ⟨"CarHouseModel$Cores", "ready", "(I)V"⟩ ∈ GT := gt_16 (List.mem_of_getElem? (i := 193) rfl) rfl
theorem wd_3795 : Cond.instanceMethod ⟨"CarHouseModel$Cores", "ready", "(I)V"⟩ ∈ GT := gt_16 (List.mem_of_getElem? (i := 195) rfl) rfl
theorem wd_3796 : Cond.code ⟨"CarHouseModel$Cores", "ready", "(I)V"⟩ prog_18_method_11_code 2 none ∈ GT := gt_16 (List.mem_of_getElem? (i := 196) rfl) rfl
theorem wd_3797 : Cond.methodLink "CarHouseModel$Cores" 232 ⟨"CarHouseModel$Cores", "step", "(I)Z"⟩ ∈ GT := gt_16 (List.mem_of_getElem? (i := 197) rfl) rfl
theorem wd_3799 : Cond.instanceMethod ⟨"CarHouseModel$Cores", "step", "(I)Z"⟩ ∈ GT := gt_16 (List.mem_of_getElem? (i := 199) rfl) rfl
theorem wd_3800 : Cond.code ⟨"CarHouseModel$Cores", "step", "(I)Z"⟩ prog_18_method_26_code 4 (some .boolean) ∈ GT := gt_16 (List.mem_of_getElem? (i := 200) rfl) rfl
theorem wd_3801 : Cond.methodLink "CarHouseModel$Cores" 216 ⟨"CarHouseModel$Cores", "atHand", "()I"⟩ ∈ GT := gt_16 (List.mem_of_getElem? (i := 201) rfl) rfl
theorem wd_3803 : Cond.instanceMethod ⟨"CarHouseModel$Cores", "atHand", "()I"⟩ ∈ GT := gt_16 (List.mem_of_getElem? (i := 203) rfl) rfl
theorem wd_3804 : Cond.code ⟨"CarHouseModel$Cores", "atHand", "()I"⟩ prog_18_method_25_code 4 (some .int) ∈ GT := gt_16 (List.mem_of_getElem? (i := 204) rfl) rfl
theorem wd_3805 : Cond.methodLink "CarHouseModel$Cores" 220 ⟨"CarHouseModel$Cores", "choose", "(I)I"⟩ ∈ GT := gt_16 (List.mem_of_getElem? (i := 205) rfl) rfl
theorem wd_3807 : Cond.instanceMethod ⟨"CarHouseModel$Cores", "choose", "(I)I"⟩ ∈ GT := gt_16 (List.mem_of_getElem? (i := 207) rfl) rfl
theorem wd_3808 : Cond.code ⟨"CarHouseModel$Cores", "choose", "(I)I"⟩ prog_18_method_24_code 7 (some .int) ∈ GT := gt_16 (List.mem_of_getElem? (i := 208) rfl) rfl
theorem wd_3809 : Cond.methodLink "CarHouseModel$Cores" 209 ⟨"CarHouseModel$Cores", "runningOf", "(I)I"⟩ ∈ GT := gt_16 (List.mem_of_getElem? (i := 209) rfl) rfl
theorem wd_3811 : Cond.instanceMethod ⟨"CarHouseModel$Cores", "runningOf", "(I)I"⟩ ∈ GT := gt_16 (List.mem_of_getElem? (i := 211) rfl) rfl
theorem wd_3812 : Cond.code ⟨"CarHouseModel$Cores", "runningOf", "(I)I"⟩ prog_18_method_23_code 4 (some .int) ∈ GT := gt_16 (List.mem_of_getElem? (i := 212) rfl) rfl
theorem wd_3813 : Cond.methodLink "CarHouseModel$Cores" 213 ⟨"CarHouseModel$Cores", "height", "(I)I"⟩ ∈ GT := gt_16 (List.mem_of_getElem? (i := 213) rfl) rfl
theorem wd_3815 : Cond.instanceMethod ⟨"CarHouseModel$Cores", "height", "(I)I"⟩ ∈ GT := gt_16 (List.mem_of_getElem? (i := 215) rfl) rfl
theorem wd_3816 : Cond.code ⟨"CarHouseModel$Cores", "height", "(I)I"⟩ prog_18_method_21_code 4 (some .int) ∈ GT := gt_16 (List.mem_of_getElem? (i := 216) rfl) rfl
theorem wd_3817 : Cond.methodLink "CarHouseModel$Cores" 223 ⟨"CarHouseModel$Cores", "nextPart", "(I)I"⟩ ∈ GT := gt_16 (List.mem_of_getElem? (i := 217) rfl) rfl
theorem wd_3819 : Cond.instanceMethod ⟨"CarHouseModel$Cores", "nextPart", "(I)I"⟩ ∈ GT := gt_16 (List.mem_of_getElem? (i := 219) rfl) rfl
theorem wd_3820 : Cond.code ⟨"CarHouseModel$Cores", "nextPart", "(I)I"⟩ prog_18_method_18_code 4 (some .int) ∈ GT := gt_16 (List.mem_of_getElem? (i := 220) rfl) rfl
theorem wd_3821 : Cond.methodLink "CarHouseModel$Cores" 198 ⟨"CarHouseModel$Cores", "ends", "(I)V"⟩ ∈ GT := gt_16 (List.mem_of_getElem? (i := 221) rfl) rfl
theorem wd_3823 : Cond.instanceMethod ⟨"CarHouseModel$Cores", "ends", "(I)V"⟩ ∈ GT := gt_16 (List.mem_of_getElem? (i := 223) rfl) rfl
theorem wd_3824 : Cond.code ⟨"CarHouseModel$Cores", "ends", "(I)V"⟩ prog_18_method_17_code 2 none ∈ GT := gt_16 (List.mem_of_getElem? (i := 224) rfl) rfl
theorem wd_3825 : Cond.methodLink "CarHouseModel$Cores" 189 ⟨"CarHouseModel$Cores", "free", "(I)V"⟩ ∈ GT := gt_16 (List.mem_of_getElem? (i := 225) rfl) rfl
theorem wd_3827 : Cond.instanceMethod ⟨"CarHouseModel$Cores", "free", "(I)V"⟩ ∈ GT := gt_16 (List.mem_of_getElem? (i := 227) rfl) rfl
theorem wd_3828 : Cond.code ⟨"CarHouseModel$Cores", "free", "(I)V"⟩ prog_18_method_16_code 4 none ∈ GT := gt_16 (List.mem_of_getElem? (i := 228) rfl) rfl
theorem wd_3829 : Cond.methodLink "CarHouseModel$Cores" 183 ⟨"CarHouseModel$Cores", "holdsSome", "(I)Z"⟩ ∈ GT := gt_16 (List.mem_of_getElem? (i := 229) rfl) rfl
theorem wd_3831 : Cond.instanceMethod ⟨"CarHouseModel$Cores", "holdsSome", "(I)Z"⟩ ∈ GT := gt_16 (List.mem_of_getElem? (i := 231) rfl) rfl
theorem wd_3832 : Cond.code ⟨"CarHouseModel$Cores", "holdsSome", "(I)Z"⟩ prog_18_method_15_code 4 (some .boolean) ∈ GT := gt_16 (List.mem_of_getElem? (i := 232) rfl) rfl
theorem wd_3833 : Cond.methodLink "CarHouseModel$Cores" 186 ⟨"CarHouseModel$Cores", "unlock", "(I)V"⟩ ∈ GT := gt_16 (List.mem_of_getElem? (i := 233) rfl) rfl
theorem wd_3835 : Cond.instanceMethod ⟨"CarHouseModel$Cores", "unlock", "(I)V"⟩ ∈ GT := gt_16 (List.mem_of_getElem? (i := 235) rfl) rfl
theorem wd_3836 : Cond.code ⟨"CarHouseModel$Cores", "unlock", "(I)V"⟩ prog_18_method_14_code 4 none ∈ GT := gt_16 (List.mem_of_getElem? (i := 236) rfl) rfl
theorem wd_3837 : Cond.methodLink "CarHouseModel$Cores" 226 ⟨"CarHouseModel$Cores", "act", "(IIJ)V"⟩ ∈ GT := gt_16 (List.mem_of_getElem? (i := 237) rfl) rfl
theorem wd_3839 : Cond.instanceMethod ⟨"CarHouseModel$Cores", "act", "(IIJ)V"⟩ ∈ GT := gt_16 (List.mem_of_getElem? (i := 239) rfl) rfl
theorem wd_3840 : Cond.code ⟨"CarHouseModel$Cores", "act", "(IIJ)V"⟩ prog_18_method_19_code 8 none ∈ GT := gt_17 (List.mem_of_getElem? (i := 0) rfl) rfl
theorem wd_3841 : Cond.methodLink "CarHouseModel$Cores" 195 ⟨"CarHouseModel$Cores", "chain", "(II)V"⟩ ∈ GT := gt_17 (List.mem_of_getElem? (i := 1) rfl) rfl
theorem wd_3843 : Cond.instanceMethod ⟨"CarHouseModel$Cores", "chain", "(II)V"⟩ ∈ GT := gt_17 (List.mem_of_getElem? (i := 3) rfl) rfl
theorem wd_3844 : Cond.code ⟨"CarHouseModel$Cores", "chain", "(II)V"⟩ prog_18_method_20_code 3 none ∈ GT := gt_17 (List.mem_of_getElem? (i := 4) rfl) rfl
theorem wd_3845 : Cond.constant "CarHouseModel$Cores" 201 65536 ∈ GT := gt_17 (List.mem_of_getElem? (i := 5) rfl) rfl
theorem wd_3846 : Cond.methodLink "CarHouseModel$Cores" 202 ⟨"CarHouseModel$Cores", "set", "(II)Z"⟩ ∈ GT := gt_17 (List.mem_of_getElem? (i := 6) rfl) rfl
theorem wd_3848 : Cond.instanceMethod ⟨"CarHouseModel$Cores", "set", "(II)Z"⟩ ∈ GT := gt_17 (List.mem_of_getElem? (i := 8) rfl) rfl
theorem wd_3849 : Cond.code ⟨"CarHouseModel$Cores", "set", "(II)Z"⟩ prog_18_method_13_code 3 (some .boolean) ∈ GT := gt_17 (List.mem_of_getElem? (i := 9) rfl) rfl
theorem wd_3850 : Cond.methodLink "CarHouseModel$Cores" 235 ⟨"CarHouseModel$Cores", "pass", "(I)V"⟩ ∈ GT := gt_17 (List.mem_of_getElem? (i := 10) rfl) rfl
theorem wd_3852 : Cond.instanceMethod ⟨"CarHouseModel$Cores", "pass", "(I)V"⟩ ∈ GT := gt_17 (List.mem_of_getElem? (i := 12) rfl) rfl
theorem wd_3853 : Cond.code ⟨"CarHouseModel$Cores", "pass", "(I)V"⟩ prog_18_method_27_code 2 none ∈ GT := gt_17 (List.mem_of_getElem? (i := 13) rfl) rfl
theorem wd_3854 : Cond.methodLink "CarHouseModel" 796 ⟨"CarHouseModel", "lookAt", "(I)V"⟩ ∈ GT := gt_17 (List.mem_of_getElem? (i := 14) rfl) rfl
theorem wd_3856 : Cond.instanceMethod ⟨"CarHouseModel", "lookAt", "(I)V"⟩ ∈ GT := gt_17 (List.mem_of_getElem? (i := 16) rfl) rfl
theorem wd_3857 : Cond.code ⟨"CarHouseModel", "lookAt", "(I)V"⟩ prog_14_method_54_code 6 none ∈ GT := gt_17 (List.mem_of_getElem? (i := 17) rfl) rfl
theorem wd_3858 : Cond.methodLink "CarHouseModel" 682 ⟨"CarHouseModel$Bus", "taken", "(III)I"⟩ ∈ GT := gt_17 (List.mem_of_getElem? (i := 18) rfl) rfl
theorem wd_3859 : Cond.instanceMethod ⟨"CarHouseModel$Bus", "taken", "(III)I"⟩ ∈ GT := gt_17 (List.mem_of_getElem? (i := 19) rfl) rfl
theorem wd_3860 : Cond.selects "CarHouseModel$Bus" ⟨"CarHouseModel$Bus", "taken", "(III)I"⟩ ⟨"CarHouseModel$Bus", "taken", "(III)I"⟩ ∈ GT := gt_17 (List.mem_of_getElem? (i := 20) rfl) rfl
theorem wd_3861 : Cond.code ⟨"CarHouseModel$Bus", "taken", "(III)I"⟩ prog_15_method_50_code 6 (some .int) ∈ GT := gt_17 (List.mem_of_getElem? (i := 21) rfl) rfl
theorem wd_3862 : Cond.methodLink "CarHouseModel$Bus" 282 ⟨"CarHouseModel$Bus", "took", "(II)I"⟩ ∈ GT := gt_17 (List.mem_of_getElem? (i := 22) rfl) rfl
theorem wd_3864 : Cond.instanceMethod ⟨"CarHouseModel$Bus", "took", "(II)I"⟩ ∈ GT := gt_17 (List.mem_of_getElem? (i := 24) rfl) rfl
theorem wd_3865 : Cond.code ⟨"CarHouseModel$Bus", "took", "(II)I"⟩ prog_15_method_49_code 5 (some .int) ∈ GT := gt_17 (List.mem_of_getElem? (i := 25) rfl) rfl
theorem wd_3866 : Cond.methodLink "CarHouseModel" 685 ⟨"CarHouseModel$Bus", "takenOctet", "(III)I"⟩ ∈ GT := gt_17 (List.mem_of_getElem? (i := 26) rfl) rfl
theorem wd_3867 : Cond.instanceMethod ⟨"CarHouseModel$Bus", "takenOctet", "(III)I"⟩ ∈ GT := gt_17 (List.mem_of_getElem? (i := 27) rfl) rfl
theorem wd_3868 : Cond.selects "CarHouseModel$Bus" ⟨"CarHouseModel$Bus", "takenOctet", "(III)I"⟩ ⟨"CarHouseModel$Bus", "takenOctet", "(III)I"⟩ ∈ GT := gt_17 (List.mem_of_getElem? (i := 28) rfl) rfl
theorem wd_3869 : Cond.code ⟨"CarHouseModel$Bus", "takenOctet", "(III)I"⟩ prog_15_method_51_code 5 (some .int) ∈ GT := gt_17 (List.mem_of_getElem? (i := 29) rfl) rfl
theorem wd_3870 : Cond.methodLink "CarHouseModel" 688 ⟨"CarHouseModel", "come", "(II)V"⟩ ∈ GT := gt_17 (List.mem_of_getElem? (i := 30) rfl) rfl
theorem wd_3872 : Cond.instanceMethod ⟨"CarHouseModel", "come", "(II)V"⟩ ∈ GT := gt_17 (List.mem_of_getElem? (i := 32) rfl) rfl
theorem wd_3873 : Cond.code ⟨"CarHouseModel", "come", "(II)V"⟩ prog_14_method_57_code 8 none ∈ GT := gt_17 (List.mem_of_getElem? (i := 33) rfl) rfl
theorem wd_3874 : Cond.methodLink "CarHouseModel" 699 ⟨"CarHouseModel", "right", "(II)Z"⟩ ∈ GT := gt_17 (List.mem_of_getElem? (i := 34) rfl) rfl
theorem wd_3876 : Cond.instanceMethod ⟨"CarHouseModel", "right", "(II)Z"⟩ ∈ GT := gt_17 (List.mem_of_getElem? (i := 36) rfl) rfl
theorem wd_3877 : Cond.code ⟨"CarHouseModel", "right", "(II)Z"⟩ prog_14_method_55_code 8 (some .boolean) ∈ GT := gt_17 (List.mem_of_getElem? (i := 37) rfl) rfl
theorem wd_3878 : Cond.constantLong "CarHouseModel" 695 255 ∈ GT := gt_17 (List.mem_of_getElem? (i := 38) rfl) rfl
theorem wd_3879 : Cond.constantLong "CarHouseModel" 697 64 ∈ GT := gt_17 (List.mem_of_getElem? (i := 39) rfl) rfl
theorem wd_3880 : Cond.methodLink "CarHouseModel" 702 ⟨"CarHouseModel$Troubles", "event", "(IZ)I"⟩ ∈ GT := gt_17 (List.mem_of_getElem? (i := 40) rfl) rfl
theorem wd_3881 : Cond.instanceMethod ⟨"CarHouseModel$Troubles", "event", "(IZ)I"⟩ ∈ GT := gt_17 (List.mem_of_getElem? (i := 41) rfl) rfl
theorem wd_3882 : Cond.selects "CarHouseModel$Troubles" ⟨"CarHouseModel$Troubles", "event", "(IZ)I"⟩ ⟨"CarHouseModel$Troubles", "event", "(IZ)I"⟩ ∈ GT := gt_17 (List.mem_of_getElem? (i := 42) rfl) rfl
theorem wd_3883 : Cond.code ⟨"CarHouseModel$Troubles", "event", "(IZ)I"⟩ prog_21_method_18_code 3 (some .int) ∈ GT := gt_17 (List.mem_of_getElem? (i := 43) rfl) rfl
theorem wd_3884 : Cond.methodLink "CarHouseModel$Troubles" 128 ⟨"CarHouseModel$Troubles", "none", "(I)Z"⟩ ∈ GT := gt_17 (List.mem_of_getElem? (i := 44) rfl) rfl
theorem wd_3886 : Cond.instanceMethod ⟨"CarHouseModel$Troubles", "none", "(I)Z"⟩ ∈ GT := gt_17 (List.mem_of_getElem? (i := 46) rfl) rfl
theorem wd_3887 : Cond.code ⟨"CarHouseModel$Troubles", "none", "(I)Z"⟩ prog_21_method_4_code 2 (some .boolean) ∈ GT := gt_17 (List.mem_of_getElem? (i := 47) rfl) rfl
theorem wd_3888 : Cond.methodLink "CarHouseModel$Troubles" 131 ⟨"CarHouseModel$Troubles", "statusOf", "(I)I"⟩ ∈ GT := gt_17 (List.mem_of_getElem? (i := 48) rfl) rfl
theorem wd_3890 : Cond.instanceMethod ⟨"CarHouseModel$Troubles", "statusOf", "(I)I"⟩ ∈ GT := gt_17 (List.mem_of_getElem? (i := 50) rfl) rfl
theorem wd_3891 : Cond.code ⟨"CarHouseModel$Troubles", "statusOf", "(I)I"⟩ prog_21_method_7_code 4 (some .int) ∈ GT := gt_17 (List.mem_of_getElem? (i := 51) rfl) rfl
theorem wd_3892 : Cond.methodLink "CarHouseModel$Troubles" 134 ⟨"CarHouseModel$Troubles", "fails", "(I)V"⟩ ∈ GT := gt_17 (List.mem_of_getElem? (i := 52) rfl) rfl
theorem wd_3894 : Cond.instanceMethod ⟨"CarHouseModel$Troubles", "fails", "(I)V"⟩ ∈ GT := gt_17 (List.mem_of_getElem? (i := 54) rfl) rfl
theorem wd_3895 : Cond.code ⟨"CarHouseModel$Troubles", "fails", "(I)V"⟩ prog_21_method_17_code 3 none ∈ GT := gt_17 (List.mem_of_getElem? (i := 55) rfl) rfl
theorem wd_3896 : Cond.methodLink "CarHouseModel$Troubles" 121 ⟨"CarHouseModel$Troubles", "hidden", "(I)Z"⟩ ∈ GT := gt_17 (List.mem_of_getElem? (i := 56) rfl) rfl
theorem wd_3898 : Cond.instanceMethod ⟨"CarHouseModel$Troubles", "hidden", "(I)Z"⟩ ∈ GT := gt_17 (List.mem_of_getElem? (i := 58) rfl) rfl
theorem wd_3899 : Cond.code ⟨"CarHouseModel$Troubles", "hidden", "(I)Z"⟩ prog_21_method_16_code 3 (some .boolean) ∈ GT := gt_17 (List.mem_of_getElem? (i := 59) rfl) rfl
theorem wd_3900 : Cond.methodLink "CarHouseModel$Troubles" 125 ⟨"CarHouseModel$Troubles", "store", "(I)V"⟩ ∈ GT := gt_17 (List.mem_of_getElem? (i := 60) rfl) rfl
theorem wd_3902 : Cond.instanceMethod ⟨"CarHouseModel$Troubles", "store", "(I)V"⟩ ∈ GT := gt_17 (List.mem_of_getElem? (i := 62) rfl) rfl
theorem wd_3903 : Cond.code ⟨"CarHouseModel$Troubles", "store", "(I)V"⟩ prog_21_method_15_code 3 none ∈ GT := gt_17 (List.mem_of_getElem? (i := 63) rfl) rfl
theorem wd_3904 : Cond.methodLink "CarHouseModel$Troubles" 110 ⟨"CarHouseModel$Troubles", "shoot", "(II)V"⟩ ∈ GT := gt_17 (List.mem_of_getElem? (i := 64) rfl) rfl
theorem wd_3906 : Cond.instanceMethod ⟨"CarHouseModel$Troubles", "shoot", "(II)V"⟩ ∈ GT := gt_17 (List.mem_of_getElem? (i := 66) rfl) rfl
theorem wd_3907 : Cond.code ⟨"CarHouseModel$Troubles", "shoot", "(II)V"⟩ prog_21_method_14_code 4 none ∈ GT := gt_17 (List.mem_of_getElem? (i := 67) rfl) rfl
theorem wd_3908 : Cond.methodLink "CarHouseModel$Troubles" 106 ⟨"CarHouseModel$Troubles", "many", "(I)I"⟩ ∈ GT := gt_17 (List.mem_of_getElem? (i := 68) rfl) rfl
theorem wd_3910 : Cond.instanceMethod ⟨"CarHouseModel$Troubles", "many", "(I)I"⟩ ∈ GT := gt_17 (List.mem_of_getElem? (i := 70) rfl) rfl
theorem wd_3911 : Cond.code ⟨"CarHouseModel$Troubles", "many", "(I)I"⟩ prog_21_method_11_code 4 (some .int) ∈ GT := gt_17 (List.mem_of_getElem? (i := 71) rfl) rfl
theorem wd_3912 : Cond.methodLink "CarHouseModel$Troubles" 114 ⟨"CarHouseModel$Troubles", "entries", "()I"⟩ ∈ GT := gt_17 (List.mem_of_getElem? (i := 72) rfl) rfl
theorem wd_3914 : Cond.instanceMethod ⟨"CarHouseModel$Troubles", "entries", "()I"⟩ ∈ GT := gt_17 (List.mem_of_getElem? (i := 74) rfl) rfl
theorem wd_3915 : Cond.code ⟨"CarHouseModel$Troubles", "entries", "()I"⟩ prog_21_method_12_code 3 (some .int) ∈ GT := gt_17 (List.mem_of_getElem? (i := 75) rfl) rfl
theorem wd_3916 : Cond.methodLink "CarHouseModel$Troubles" 118 ⟨"CarHouseModel$Troubles", "goes", "(I)I"⟩ ∈ GT := gt_17 (List.mem_of_getElem? (i := 76) rfl) rfl
theorem wd_3918 : Cond.instanceMethod ⟨"CarHouseModel$Troubles", "goes", "(I)I"⟩ ∈ GT := gt_17 (List.mem_of_getElem? (i := 78) rfl) rfl
theorem wd_3919 : Cond.code ⟨"CarHouseModel$Troubles", "goes", "(I)I"⟩ prog_21_method_13_code 7 (some .int) ∈ GT := gt_17 (List.mem_of_getElem? (i := 79) rfl) rfl
theorem wd_3920 : Cond.methodLink "CarHouseModel" 706 ⟨"CarHouseModel", "valueOf", "(I)J"⟩ ∈ GT := gt_17 (List.mem_of_getElem? (i := 80) rfl) rfl
theorem wd_3922 : Cond.instanceMethod ⟨"CarHouseModel", "valueOf", "(I)J"⟩ ∈ GT := gt_17 (List.mem_of_getElem? (i := 82) rfl) rfl
theorem wd_3923 : Cond.code ⟨"CarHouseModel", "valueOf", "(I)J"⟩ prog_14_method_56_code 7 (some .long) ∈ GT := gt_17 (List.mem_of_getElem? (i := 83) rfl) rfl
theorem wd_3924 : Cond.methodLink "CarHouseModel" 709 ⟨"CarHouseModel$Chart", "put", "(IJ)V"⟩ ∈ GT := gt_17 (List.mem_of_getElem? (i := 84) rfl) rfl
theorem wd_3925 : Cond.instanceMethod ⟨"CarHouseModel$Chart", "put", "(IJ)V"⟩ ∈ GT := gt_17 (List.mem_of_getElem? (i := 85) rfl) rfl
theorem wd_3926 : Cond.selects "CarHouseModel$Chart" ⟨"CarHouseModel$Chart", "put", "(IJ)V"⟩ ⟨"CarHouseModel$Chart", "put", "(IJ)V"⟩ ∈ GT := gt_17 (List.mem_of_getElem? (i := 86) rfl) rfl
theorem wd_3927 : Cond.code ⟨"CarHouseModel$Chart", "put", "(IJ)V"⟩ prog_16_method_3_code 4 none ∈ GT := gt_17 (List.mem_of_getElem? (i := 87) rfl) rfl
theorem wd_3928 : Cond.methodLink "CarHouseModel" 692 ⟨"CarHouseModel", "arrive", "(I)V"⟩ ∈ GT := gt_17 (List.mem_of_getElem? (i := 88) rfl) rfl
theorem wd_3930 : Cond.instanceMethod ⟨"CarHouseModel", "arrive", "(I)V"⟩ ∈ GT := gt_17 (List.mem_of_getElem? (i := 90) rfl) rfl
theorem wd_3931 : Cond.code ⟨"CarHouseModel", "arrive", "(I)V"⟩ prog_14_method_58_code 8 none ∈ GT := gt_17 (List.mem_of_getElem? (i := 91) rfl) rfl
theorem wd_3932 : Cond.methodLink "CarHouseModel" 710 ⟨"CarHouseModel$Transfer", "receive", "(I)I"⟩ ∈ GT := gt_17 (List.mem_of_getElem? (i := 92) rfl) rfl
theorem wd_3933 : Cond.instanceMethod ⟨"CarHouseModel$Transfer", "receive", "(I)I"⟩ ∈ GT := gt_17 (List.mem_of_getElem? (i := 93) rfl) rfl
theorem wd_3934 : Cond.selects "CarHouseModel$Transfer" ⟨"CarHouseModel$Transfer", "receive", "(I)I"⟩ ⟨"CarHouseModel$Transfer", "receive", "(I)I"⟩ ∈ GT := gt_17 (List.mem_of_getElem? (i := 94) rfl) rfl
theorem wd_3935 : Cond.code ⟨"CarHouseModel$Transfer", "receive", "(I)I"⟩ prog_20_method_23_code 2 (some .int) ∈ GT := gt_17 (List.mem_of_getElem? (i := 95) rfl) rfl
theorem wd_3936 : Cond.methodLink "CarHouseModel$Transfer" 202 ⟨"CarHouseModel$Transfer", "takeFlow", "(I)I"⟩ ∈ GT := gt_17 (List.mem_of_getElem? (i := 96) rfl) rfl
theorem wd_3938 : Cond.instanceMethod ⟨"CarHouseModel$Transfer", "takeFlow", "(I)I"⟩ ∈ GT := gt_17 (List.mem_of_getElem? (i := 98) rfl) rfl
theorem wd_3939 : Cond.code ⟨"CarHouseModel$Transfer", "takeFlow", "(I)I"⟩ prog_20_method_12_code 4 (some .int) ∈ GT := gt_17 (List.mem_of_getElem? (i := 99) rfl) rfl
theorem wd_3940 : Cond.methodLink "CarHouseModel$Transfer" 159 ⟨"CarHouseModel$Transfer", "endSender", "(II)V"⟩ ∈ GT := gt_17 (List.mem_of_getElem? (i := 100) rfl) rfl
theorem wd_3942 : Cond.instanceMethod ⟨"CarHouseModel$Transfer", "endSender", "(II)V"⟩ ∈ GT := gt_17 (List.mem_of_getElem? (i := 102) rfl) rfl
theorem wd_3943 : Cond.code ⟨"CarHouseModel$Transfer", "endSender", "(II)V"⟩ prog_20_method_9_code 3 none ∈ GT := gt_17 (List.mem_of_getElem? (i := 103) rfl) rfl
theorem wd_3944 : Cond.methodLink "CarHouseModel$Transfer" 205 ⟨"CarHouseModel$Transfer", "take", "(I)I"⟩ ∈ GT := gt_17 (List.mem_of_getElem? (i := 104) rfl) rfl
theorem wd_3946 : Cond.instanceMethod ⟨"CarHouseModel$Transfer", "take", "(I)I"⟩ ∈ GT := gt_17 (List.mem_of_getElem? (i := 106) rfl) rfl
theorem wd_3947 : Cond.code ⟨"CarHouseModel$Transfer", "take", "(I)I"⟩ prog_20_method_17_code 3 (some .int) ∈ GT := gt_17 (List.mem_of_getElem? (i := 107) rfl) rfl
theorem wd_3948 : Cond.methodLink "CarHouseModel$Transfer" 166 ⟨"CarHouseModel$Transfer", "takeNext", "(II)V"⟩ ∈ GT := gt_17 (List.mem_of_getElem? (i := 108) rfl) rfl
theorem wd_3950 : Cond.instanceMethod ⟨"CarHouseModel$Transfer", "takeNext", "(II)V"⟩ ∈ GT := gt_17 (List.mem_of_getElem? (i := 110) rfl) rfl
theorem wd_3951 : Cond.code ⟨"CarHouseModel$Transfer", "takeNext", "(II)V"⟩ prog_20_method_18_code 3 none ∈ GT := gt_17 (List.mem_of_getElem? (i := 111) rfl) rfl
theorem wd_3952 : Cond.methodLink "CarHouseModel$Transfer" 163 ⟨"CarHouseModel$Transfer", "endReceiver", "(II)V"⟩ ∈ GT := gt_17 (List.mem_of_getElem? (i := 112) rfl) rfl
theorem wd_3954 : Cond.instanceMethod ⟨"CarHouseModel$Transfer", "endReceiver", "(II)V"⟩ ∈ GT := gt_17 (List.mem_of_getElem? (i := 114) rfl) rfl
theorem wd_3955 : Cond.code ⟨"CarHouseModel$Transfer", "endReceiver", "(II)V"⟩ prog_20_method_13_code 3 none ∈ GT := gt_17 (List.mem_of_getElem? (i := 115) rfl) rfl
theorem wd_3956 : Cond.methodLink "CarHouseModel$Transfer" 169 ⟨"CarHouseModel$Transfer", "put", "(II)V"⟩ ∈ GT := gt_17 (List.mem_of_getElem? (i := 116) rfl) rfl
theorem wd_3958 : Cond.instanceMethod ⟨"CarHouseModel$Transfer", "put", "(II)V"⟩ ∈ GT := gt_17 (List.mem_of_getElem? (i := 118) rfl) rfl
theorem wd_3959 : Cond.code ⟨"CarHouseModel$Transfer", "put", "(II)V"⟩ prog_20_method_15_code 4 none ∈ GT := gt_17 (List.mem_of_getElem? (i := 119) rfl) rfl
theorem wd_3960 : Cond.methodLink "CarHouseModel$Transfer" 172 ⟨"CarHouseModel$Transfer", "whole", "(I)V"⟩ ∈ GT := gt_17 (List.mem_of_getElem? (i := 120) rfl) rfl
theorem wd_3962 : Cond.instanceMethod ⟨"CarHouseModel$Transfer", "whole", "(I)V"⟩ ∈ GT := gt_17 (List.mem_of_getElem? (i := 122) rfl) rfl
theorem wd_3963 : Cond.code ⟨"CarHouseModel$Transfer", "whole", "(I)V"⟩ prog_20_method_16_code 3 none ∈ GT := gt_17 (List.mem_of_getElem? (i := 123) rfl) rfl
theorem wd_3964 : Cond.methodLink "CarHouseModel$Transfer" 176 ⟨"CarHouseModel$Transfer", "answer", "(I)V"⟩ ∈ GT := gt_17 (List.mem_of_getElem? (i := 124) rfl) rfl
theorem wd_3966 : Cond.instanceMethod ⟨"CarHouseModel$Transfer", "answer", "(I)V"⟩ ∈ GT := gt_17 (List.mem_of_getElem? (i := 126) rfl) rfl
theorem wd_3967 : Cond.code ⟨"CarHouseModel$Transfer", "answer", "(I)V"⟩ prog_20_method_14_code 2 none ∈ GT := gt_17 (List.mem_of_getElem? (i := 127) rfl) rfl
theorem wd_3968 : Cond.methodLink "CarHouseModel$Transfer" 151 ⟨"CarHouseModel$Transfer", "make", "(IIIII)I"⟩ ∈ GT := gt_17 (List.mem_of_getElem? (i := 128) rfl) rfl
theorem wd_3970 : Cond.instanceMethod ⟨"CarHouseModel$Transfer", "make", "(IIIII)I"⟩ ∈ GT := gt_17 (List.mem_of_getElem? (i := 130) rfl) rfl
theorem wd_3971 : Cond.code ⟨"CarHouseModel$Transfer", "make", "(IIIII)I"⟩ prog_20_method_7_code 6 (some .int) ∈ GT := gt_17 (List.mem_of_getElem? (i := 131) rfl) rfl
theorem wd_3972 : Cond.methodLink "CarHouseModel" 713 ⟨"CarHouseModel$Transfer", "ended", "(I)I"⟩ ∈ GT := gt_17 (List.mem_of_getElem? (i := 132) rfl) rfl
theorem wd_3973 : Cond.instanceMethod ⟨"CarHouseModel$Transfer", "ended", "(I)I"⟩ ∈ GT := gt_17 (List.mem_of_getElem? (i := 133) rfl) rfl
theorem wd_3974 : Cond.selects "CarHouseModel$Transfer" ⟨"CarHouseModel$Transfer", "ended", "(I)I"⟩ ⟨"CarHouseModel$Transfer", "ended", "(I)I"⟩ ∈ GT := gt_17 (List.mem_of_getElem? (i := 134) rfl) rfl
theorem wd_3975 : Cond.code ⟨"CarHouseModel$Transfer", "ended", "(I)I"⟩ prog_20_method_29_code 2 (some .int) ∈ GT := gt_17 (List.mem_of_getElem? (i := 135) rfl) rfl
theorem wd_3976 : Cond.methodLink "CarHouseModel" 716 ⟨"CarHouseModel$Transfer", "length", "()I"⟩ ∈ GT := gt_17 (List.mem_of_getElem? (i := 136) rfl) rfl
theorem wd_3977 : Cond.instanceMethod ⟨"CarHouseModel$Transfer", "length", "()I"⟩ ∈ GT := gt_17 (List.mem_of_getElem? (i := 137) rfl) rfl
theorem wd_3978 : Cond.selects "CarHouseModel$Transfer" ⟨"CarHouseModel$Transfer", "length", "()I"⟩ ⟨"CarHouseModel$Transfer", "length", "()I"⟩ ∈ GT := gt_17 (List.mem_of_getElem? (i := 138) rfl) rfl
theorem wd_3979 : Cond.code ⟨"CarHouseModel$Transfer", "length", "()I"⟩ prog_20_method_28_code 1 (some .int) ∈ GT := gt_17 (List.mem_of_getElem? (i := 139) rfl) rfl
theorem wd_3980 : Cond.methodLink "CarHouseModel" 718 ⟨"CarHouseModel$Transfer", "got", "(I)B"⟩ ∈ GT := gt_17 (List.mem_of_getElem? (i := 140) rfl) rfl
theorem wd_3981 : Cond.instanceMethod ⟨"CarHouseModel$Transfer", "got", "(I)B"⟩ ∈ GT := gt_17 (List.mem_of_getElem? (i := 141) rfl) rfl
theorem wd_3982 : Cond.selects "CarHouseModel$Transfer" ⟨"CarHouseModel$Transfer", "got", "(I)B"⟩ ⟨"CarHouseModel$Transfer", "got", "(I)B"⟩ ∈ GT := gt_17 (List.mem_of_getElem? (i := 142) rfl) rfl
theorem wd_3983 : Cond.code ⟨"CarHouseModel$Transfer", "got", "(I)B"⟩ prog_20_method_27_code 2 (some .byte) ∈ GT := gt_17 (List.mem_of_getElem? (i := 143) rfl) rfl
theorem wd_3984 : Cond.methodLink "CarHouseModel" 720 ⟨"CarHouseModel$Transfer", "frame", "(II)I"⟩ ∈ GT := gt_17 (List.mem_of_getElem? (i := 144) rfl) rfl
theorem wd_3985 : Cond.instanceMethod ⟨"CarHouseModel$Transfer", "frame", "(II)I"⟩ ∈ GT := gt_17 (List.mem_of_getElem? (i := 145) rfl) rfl
theorem wd_3986 : Cond.selects "CarHouseModel$Transfer" ⟨"CarHouseModel$Transfer", "frame", "(II)I"⟩ ⟨"CarHouseModel$Transfer", "frame", "(II)I"⟩ ∈ GT := gt_17 (List.mem_of_getElem? (i := 146) rfl) rfl
theorem wd_3987 : Cond.code ⟨"CarHouseModel$Transfer", "frame", "(II)I"⟩ prog_20_method_26_code 3 (some .int) ∈ GT := gt_17 (List.mem_of_getElem? (i := 147) rfl) rfl
theorem wd_3988 : Cond.methodLink "CarHouseModel" 723 ⟨"CarHouseModel", "serve", "(II)V"⟩ ∈ GT := gt_17 (List.mem_of_getElem? (i := 148) rfl) rfl
theorem wd_3990 : Cond.instanceMethod ⟨"CarHouseModel", "serve", "(II)V"⟩ ∈ GT := gt_17 (List.mem_of_getElem? (i := 150) rfl) rfl
theorem wd_3991 : Cond.code ⟨"CarHouseModel", "serve", "(II)V"⟩ prog_14_method_62_code 8 none ∈ GT := gt_17 (List.mem_of_getElem? (i := 151) rfl) rfl
theorem wd_3992 : Cond.methodLink "CarHouseModel" 744 ⟨"CarHouseModel", "no", "(I)V"⟩ ∈ GT := gt_17 (List.mem_of_getElem? (i := 152) rfl) rfl
theorem wd_3994 : Cond.instanceMethod ⟨"CarHouseModel", "no", "(I)V"⟩ ∈ GT := gt_17 (List.mem_of_getElem? (i := 154) rfl) rfl
theorem wd_3995 : Cond.code ⟨"CarHouseModel", "no", "(I)V"⟩ prog_14_method_61_code 2 none ∈ GT := gt_17 (List.mem_of_getElem? (i := 155) rfl) rfl
theorem wd_3996 : Cond.methodLink "CarHouseModel" 747 ⟨"CarHouseModel", "serveSession", "(I)V"⟩ ∈ GT := gt_17 (List.mem_of_getElem? (i := 156) rfl) rfl
theorem wd_3998 : Cond.instanceMethod ⟨"CarHouseModel", "serveSession", "(I)V"⟩ ∈ GT := gt_17 (List.mem_of_getElem? (i := 158) rfl) rfl
theorem wd_3999 : Cond.code ⟨"CarHouseModel", "serveSession", "(I)V"⟩ prog_14_method_63_code 2 none ∈ GT := gt_17 (List.mem_of_getElem? (i := 159) rfl) rfl
theorem wd_4000 : Cond.methodLink "CarHouseModel" 750 ⟨"CarHouseModel", "serveRead", "(I)V"⟩ ∈ GT := gt_17 (List.mem_of_getElem? (i := 160) rfl) rfl
theorem wd_4002 : Cond.instanceMethod ⟨"CarHouseModel", "serveRead", "(I)V"⟩ ∈ GT := gt_17 (List.mem_of_getElem? (i := 162) rfl) rfl
theorem wd_4003 : Cond.code ⟨"CarHouseModel", "serveRead", "(I)V"⟩ prog_14_method_65_code 5 none ∈ GT := gt_17 (List.mem_of_getElem? (i := 163) rfl) rfl
theorem wd_4004 : Cond.methodLink "CarHouseModel" 768 ⟨"CarHouseModel", "isThere", "(I)Z"⟩ ∈ GT := gt_17 (List.mem_of_getElem? (i := 164) rfl) rfl
theorem wd_4006 : Cond.instanceMethod ⟨"CarHouseModel", "isThere", "(I)Z"⟩ ∈ GT := gt_17 (List.mem_of_getElem? (i := 166) rfl) rfl
theorem wd_4007 : Cond.code ⟨"CarHouseModel", "isThere", "(I)Z"⟩ prog_14_method_64_code 2 (some .boolean) ∈ GT := gt_17 (List.mem_of_getElem? (i := 167) rfl) rfl
theorem wd_4008 : Cond.methodLink "CarHouseModel" 753 ⟨"CarHouseModel", "serveWrite", "(I)V"⟩ ∈ GT := gt_17 (List.mem_of_getElem? (i := 168) rfl) rfl
theorem wd_4010 : Cond.instanceMethod ⟨"CarHouseModel", "serveWrite", "(I)V"⟩ ∈ GT := gt_17 (List.mem_of_getElem? (i := 170) rfl) rfl
theorem wd_4011 : Cond.code ⟨"CarHouseModel", "serveWrite", "(I)V"⟩ prog_14_method_66_code 5 none ∈ GT := gt_17 (List.mem_of_getElem? (i := 171) rfl) rfl
theorem wd_4012 : Cond.methodLink "CarHouseModel" 756 ⟨"CarHouseModel", "serveTroubles", "()V"⟩ ∈ GT := gt_17 (List.mem_of_getElem? (i := 172) rfl) rfl
theorem wd_4014 : Cond.instanceMethod ⟨"CarHouseModel", "serveTroubles", "()V"⟩ ∈ GT := gt_17 (List.mem_of_getElem? (i := 174) rfl) rfl
theorem wd_4015 : Cond.code ⟨"CarHouseModel", "serveTroubles", "()V"⟩ prog_14_method_67_code 3 none ∈ GT := gt_17 (List.mem_of_getElem? (i := 175) rfl) rfl
theorem wd_4016 : Cond.methodLink "CarHouseModel" 771 ⟨"CarHouseModel$Troubles", "stored", "(II)I"⟩ ∈ GT := gt_17 (List.mem_of_getElem? (i := 176) rfl) rfl
theorem wd_4017 : Cond.instanceMethod ⟨"CarHouseModel$Troubles", "stored", "(II)I"⟩ ∈ GT := gt_17 (List.mem_of_getElem? (i := 177) rfl) rfl
theorem wd_4018 : Cond.selects "CarHouseModel$Troubles" ⟨"CarHouseModel$Troubles", "stored", "(II)I"⟩ ⟨"CarHouseModel$Troubles", "stored", "(II)I"⟩ ∈ GT := gt_17 (List.mem_of_getElem? (i := 178) rfl) rfl
theorem wd_4019 : Cond.code ⟨"CarHouseModel$Troubles", "stored", "(II)I"⟩ prog_21_method_26_code 6 (some .int) ∈ GT := gt_17 (List.mem_of_getElem? (i := 179) rfl) rfl
theorem wd_4020 : Cond.methodLink "CarHouseModel" 774 ⟨"CarHouseModel$Troubles", "status", "(I)I"⟩ ∈ GT := gt_17 (List.mem_of_getElem? (i := 180) rfl) rfl
theorem wd_4021 : Cond.instanceMethod ⟨"CarHouseModel$Troubles", "status", "(I)I"⟩ ∈ GT := gt_17 (List.mem_of_getElem? (i := 181) rfl) rfl
theorem wd_4022 : Cond.selects "CarHouseModel$Troubles" ⟨"CarHouseModel$Troubles", "status", "(I)I"⟩ ⟨"CarHouseModel$Troubles", "status", "(I)I"⟩ ∈ GT := gt_17 (List.mem_of_getElem? (i := 182) rfl) rfl
theorem wd_4023 : Cond.code ⟨"CarHouseModel$Troubles", "status", "(I)I"⟩ prog_21_method_20_code 2 (some .int) ∈ GT := gt_17 (List.mem_of_getElem? (i := 183) rfl) rfl
theorem wd_4024 : Cond.methodLink "CarHouseModel" 759 ⟨"CarHouseModel", "serveClear", "()V"⟩ ∈ GT := gt_17 (List.mem_of_getElem? (i := 184) rfl) rfl
theorem wd_4026 : Cond.instanceMethod ⟨"CarHouseModel", "serveClear", "()V"⟩ ∈ GT := gt_17 (List.mem_of_getElem? (i := 186) rfl) rfl
theorem wd_4027 : Cond.code ⟨"CarHouseModel", "serveClear", "()V"⟩ prog_14_method_68_code 2 none ∈ GT := gt_17 (List.mem_of_getElem? (i := 187) rfl) rfl
theorem wd_4028 : Cond.methodLink "CarHouseModel" 777 ⟨"CarHouseModel$Troubles", "clear", "(I)I"⟩ ∈ GT := gt_17 (List.mem_of_getElem? (i := 188) rfl) rfl
theorem wd_4029 : Cond.instanceMethod ⟨"CarHouseModel$Troubles", "clear", "(I)I"⟩ ∈ GT := gt_17 (List.mem_of_getElem? (i := 189) rfl) rfl
theorem wd_4030 : Cond.selects "CarHouseModel$Troubles" ⟨"CarHouseModel$Troubles", "clear", "(I)I"⟩ ⟨"CarHouseModel$Troubles", "clear", "(I)I"⟩ ∈ GT := gt_17 (List.mem_of_getElem? (i := 190) rfl) rfl
theorem wd_4031 : Cond.code ⟨"CarHouseModel$Troubles", "clear", "(I)I"⟩ prog_21_method_22_code 4 (some .int) ∈ GT := gt_17 (List.mem_of_getElem? (i := 191) rfl) rfl
theorem wd_4032 : Cond.methodLink "CarHouseModel" 762 ⟨"CarHouseModel", "serveSeed", "(I)V"⟩ ∈ GT := gt_17 (List.mem_of_getElem? (i := 192) rfl) rfl
theorem wd_4034 : Cond.instanceMethod ⟨"CarHouseModel", "serveSeed", "(I)V"⟩ ∈ GT := gt_17 (List.mem_of_getElem? (i := 194) rfl) rfl
theorem wd_4035 : Cond.code ⟨"CarHouseModel", "serveSeed", "(I)V"⟩ prog_14_method_69_code 3 none ∈ GT := gt_17 (List.mem_of_getElem? (i := 195) rfl) rfl
theorem wd_4036 : Cond.constantLong "CarHouseModel" 780 2654435761 ∈ GT := gt_17 (List.mem_of_getElem? (i := 196) rfl) rfl
theorem wd_4037 : Cond.constantLong "CarHouseModel" 782 4294967295 ∈ GT := gt_17 (List.mem_of_getElem? (i := 197) rfl) rfl
theorem wd_4038 : Cond.methodLink "CarHouseModel" 765 ⟨"CarHouseModel", "serveKey", "(I)V"⟩ ∈ GT := gt_17 (List.mem_of_getElem? (i := 198) rfl) rfl
theorem wd_4040 : Cond.instanceMethod ⟨"CarHouseModel", "serveKey", "(I)V"⟩ ∈ GT := gt_17 (List.mem_of_getElem? (i := 200) rfl) rfl
theorem wd_4041 : Cond.code ⟨"CarHouseModel", "serveKey", "(I)V"⟩ prog_14_method_70_code 4 none ∈ GT := gt_17 (List.mem_of_getElem? (i := 201) rfl) rfl
theorem wd_4042 : Cond.methodLink "CarHouseModel" 726 ⟨"CarHouseModel", "say", "(IZ)V"⟩ ∈ GT := gt_17 (List.mem_of_getElem? (i := 202) rfl) rfl
theorem wd_4044 : Cond.instanceMethod ⟨"CarHouseModel", "say", "(IZ)V"⟩ ∈ GT := gt_17 (List.mem_of_getElem? (i := 204) rfl) rfl
theorem wd_4045 : Cond.code ⟨"CarHouseModel", "say", "(IZ)V"⟩ prog_14_method_59_code 5 none ∈ GT := gt_17 (List.mem_of_getElem? (i := 205) rfl) rfl
theorem wd_4046 : Cond.methodLink "CarHouseModel" 733 ⟨"CarHouseModel$Transfer", "send", "(I)I"⟩ ∈ GT := gt_17 (List.mem_of_getElem? (i := 206) rfl) rfl
theorem wd_4047 : Cond.instanceMethod ⟨"CarHouseModel$Transfer", "send", "(I)I"⟩ ∈ GT := gt_17 (List.mem_of_getElem? (i := 207) rfl) rfl
theorem wd_4048 : Cond.selects "CarHouseModel$Transfer" ⟨"CarHouseModel$Transfer", "send", "(I)I"⟩ ⟨"CarHouseModel$Transfer", "send", "(I)I"⟩ ∈ GT := gt_17 (List.mem_of_getElem? (i := 208) rfl) rfl
theorem wd_4049 : Cond.code ⟨"CarHouseModel$Transfer", "send", "(I)I"⟩ prog_20_method_5_code 2 (some .int) ∈ GT := gt_17 (List.mem_of_getElem? (i := 209) rfl) rfl
theorem wd_4050 : Cond.methodLink "CarHouseModel" 735 ⟨"CarHouseModel$Transfer", "octet", "(IIB)V"⟩ ∈ GT := gt_17 (List.mem_of_getElem? (i := 210) rfl) rfl
theorem wd_4051 : Cond.instanceMethod ⟨"CarHouseModel$Transfer", "octet", "(IIB)V"⟩ ∈ GT := gt_17 (List.mem_of_getElem? (i := 211) rfl) rfl
theorem wd_4052 : Cond.selects "CarHouseModel$Transfer" ⟨"CarHouseModel$Transfer", "octet", "(IIB)V"⟩ ⟨"CarHouseModel$Transfer", "octet", "(IIB)V"⟩ ∈ GT := gt_17 (List.mem_of_getElem? (i := 212) rfl) rfl
theorem wd_4053 : Cond.code ⟨"CarHouseModel$Transfer", "octet", "(IIB)V"⟩ prog_20_method_6_code 4 none ∈ GT := gt_17 (List.mem_of_getElem? (i := 213) rfl) rfl
theorem wd_4054 : Cond.methodLink "CarHouseModel$Transfer" 147 ⟨"CarHouseModel$Transfer", "size", "(I)I"⟩ ∈ GT := gt_17 (List.mem_of_getElem? (i := 214) rfl) rfl
theorem wd_4056 : Cond.instanceMethod ⟨"CarHouseModel$Transfer", "size", "(I)I"⟩ ∈ GT := gt_17 (List.mem_of_getElem? (i := 216) rfl) rfl
theorem wd_4057 : Cond.code ⟨"CarHouseModel$Transfer", "size", "(I)I"⟩ prog_20_method_4_code 2 (some .int) ∈ GT := gt_17 (List.mem_of_getElem? (i := 217) rfl) rfl
theorem wd_4058 : Cond.methodLink "CarHouseModel" 799 ⟨"CarHouseModel", "taskDone", "(I)V"⟩ ∈ GT := gt_17 (List.mem_of_getElem? (i := 218) rfl) rfl
theorem wd_4060 : Cond.instanceMethod ⟨"CarHouseModel", "taskDone", "(I)V"⟩ ∈ GT := gt_17 (List.mem_of_getElem? (i := 220) rfl) rfl
theorem wd_4061 : Cond.code ⟨"CarHouseModel", "taskDone", "(I)V"⟩ prog_14_method_71_code 5 none ∈ GT := gt_17 (List.mem_of_getElem? (i := 221) rfl) rfl
theorem wd_4062 : Cond.methodLink "CarHouseModel" 784 ⟨"CarHouseModel$Chart", "event", "(IJ)I"⟩ ∈ GT := gt_17 (List.mem_of_getElem? (i := 222) rfl) rfl
theorem wd_4063 : Cond.instanceMethod ⟨"CarHouseModel$Chart", "event", "(IJ)I"⟩ ∈ GT := gt_17 (List.mem_of_getElem? (i := 223) rfl) rfl
theorem wd_4064 : Cond.selects "CarHouseModel$Chart" ⟨"CarHouseModel$Chart", "event", "(IJ)I"⟩ ⟨"CarHouseModel$Chart", "event", "(IJ)I"⟩ ∈ GT := gt_17 (List.mem_of_getElem? (i := 224) rfl) rfl
theorem wd_4065 : Cond.code ⟨"CarHouseModel$Chart", "event", "(IJ)I"⟩ prog_16_method_33_code 10 (some .int) ∈ GT := gt_17 (List.mem_of_getElem? (i := 225) rfl) rfl
theorem wd_4066 : Cond.constantLong "CarHouseModel$Chart" 215 4611686018427387904 ∈ GT := gt_17 (List.mem_of_getElem? (i := 226) rfl) rfl
theorem wd_4067 : Cond.methodLink "CarHouseModel$Chart" 184 ⟨"CarHouseModel$Chart", "child", "(IZ)I"⟩ ∈ GT := gt_17 (List.mem_of_getElem? (i := 227) rfl) rfl
theorem wd_4069 : Cond.instanceMethod ⟨"CarHouseModel$Chart", "child", "(IZ)I"⟩ ∈ GT := gt_17 (List.mem_of_getElem? (i := 229) rfl) rfl
theorem wd_4070 : Cond.code ⟨"CarHouseModel$Chart", "child", "(IZ)I"⟩ prog_16_method_15_code 4 (some .int) ∈ GT := gt_17 (List.mem_of_getElem? (i := 230) rfl) rfl
theorem wd_4071 : Cond.methodLink "CarHouseModel$Chart" 192 ⟨"CarHouseModel$Chart", "enter", "(IIJ)V"⟩ ∈ GT := gt_17 (List.mem_of_getElem? (i := 231) rfl) rfl
theorem wd_4073 : Cond.instanceMethod ⟨"CarHouseModel$Chart", "enter", "(IIJ)V"⟩ ∈ GT := gt_17 (List.mem_of_getElem? (i := 233) rfl) rfl
theorem wd_4074 : Cond.code ⟨"CarHouseModel$Chart", "enter", "(IIJ)V"⟩ prog_16_method_27_code 7 none ∈ GT := gt_17 (List.mem_of_getElem? (i := 234) rfl) rfl
theorem wd_4075 : Cond.methodLink "CarHouseModel$Chart" 161 ⟨"CarHouseModel$Chart", "saysTarget", "(II)Z"⟩ ∈ GT := gt_17 (List.mem_of_getElem? (i := 235) rfl) rfl
theorem wd_4077 : Cond.instanceMethod ⟨"CarHouseModel$Chart", "saysTarget", "(II)Z"⟩ ∈ GT := gt_17 (List.mem_of_getElem? (i := 237) rfl) rfl
theorem wd_4078 : Cond.code ⟨"CarHouseModel$Chart", "saysTarget", "(II)Z"⟩ prog_16_method_20_code 3 (some .boolean) ∈ GT := gt_17 (List.mem_of_getElem? (i := 238) rfl) rfl
theorem wd_4079 : Cond.methodLink "CarHouseModel$Chart" 195 ⟨"CarHouseModel$Chart", "aim", "(II)V"⟩ ∈ GT := gt_17 (List.mem_of_getElem? (i := 239) rfl) rfl
theorem wd_4081 : Cond.instanceMethod ⟨"CarHouseModel$Chart", "aim", "(II)V"⟩ ∈ GT := gt_18 (List.mem_of_getElem? (i := 1) rfl) rfl
theorem wd_4082 : Cond.code ⟨"CarHouseModel$Chart", "aim", "(II)V"⟩ prog_16_method_28_code 5 none ∈ GT := gt_18 (List.mem_of_getElem? (i := 2) rfl) rfl
theorem wd_4083 : Cond.methodLink "CarHouseModel$Chart" 201 ⟨"CarHouseModel$Chart", "second", "(I)Z"⟩ ∈ GT := gt_18 (List.mem_of_getElem? (i := 3) rfl) rfl
theorem wd_4085 : Cond.instanceMethod ⟨"CarHouseModel$Chart", "second", "(I)Z"⟩ ∈ GT := gt_18 (List.mem_of_getElem? (i := 5) rfl) rfl
theorem wd_4086 : Cond.code ⟨"CarHouseModel$Chart", "second", "(I)Z"⟩ prog_16_method_26_code 4 (some .boolean) ∈ GT := gt_18 (List.mem_of_getElem? (i := 6) rfl) rfl
theorem wd_4087 : Cond.methodLink "CarHouseModel$Chart" 198 ⟨"CarHouseModel$Chart", "fill", "(II)V"⟩ ∈ GT := gt_18 (List.mem_of_getElem? (i := 7) rfl) rfl
theorem wd_4089 : Cond.instanceMethod ⟨"CarHouseModel$Chart", "fill", "(II)V"⟩ ∈ GT := gt_18 (List.mem_of_getElem? (i := 9) rfl) rfl
theorem wd_4090 : Cond.code ⟨"CarHouseModel$Chart", "fill", "(II)V"⟩ prog_16_method_29_code 5 none ∈ GT := gt_18 (List.mem_of_getElem? (i := 10) rfl) rfl
theorem wd_4091 : Cond.methodLink "CarHouseModel$Chart" 144 ⟨"CarHouseModel$Chart", "note", "(IIJ)V"⟩ ∈ GT := gt_18 (List.mem_of_getElem? (i := 11) rfl) rfl
theorem wd_4093 : Cond.instanceMethod ⟨"CarHouseModel$Chart", "note", "(IIJ)V"⟩ ∈ GT := gt_18 (List.mem_of_getElem? (i := 13) rfl) rfl
theorem wd_4094 : Cond.code ⟨"CarHouseModel$Chart", "note", "(IIJ)V"⟩ prog_16_method_12_code 5 none ∈ GT := gt_18 (List.mem_of_getElem? (i := 14) rfl) rfl
theorem wd_4095 : Cond.methodLink "CarHouseModel$Chart" 188 ⟨"CarHouseModel$Chart", "doActs", "(II)V"⟩ ∈ GT := gt_18 (List.mem_of_getElem? (i := 15) rfl) rfl
theorem wd_4097 : Cond.instanceMethod ⟨"CarHouseModel$Chart", "doActs", "(II)V"⟩ ∈ GT := gt_18 (List.mem_of_getElem? (i := 17) rfl) rfl
theorem wd_4098 : Cond.code ⟨"CarHouseModel$Chart", "doActs", "(II)V"⟩ prog_16_method_13_code 4 none ∈ GT := gt_18 (List.mem_of_getElem? (i := 18) rfl) rfl
theorem wd_4099 : Cond.methodLink "CarHouseModel$Chart" 217 ⟨"CarHouseModel$Chart", "chain", "(J)I"⟩ ∈ GT := gt_18 (List.mem_of_getElem? (i := 19) rfl) rfl
theorem wd_4101 : Cond.instanceMethod ⟨"CarHouseModel$Chart", "chain", "(J)I"⟩ ∈ GT := gt_18 (List.mem_of_getElem? (i := 21) rfl) rfl
theorem wd_4102 : Cond.code ⟨"CarHouseModel$Chart", "chain", "(J)I"⟩ prog_16_method_31_code 5 (some .int) ∈ GT := gt_18 (List.mem_of_getElem? (i := 22) rfl) rfl
theorem wd_4103 : Cond.methodLink "CarHouseModel$Chart" 208 ⟨"CarHouseModel$Chart", "choose", "(I)I"⟩ ∈ GT := gt_18 (List.mem_of_getElem? (i := 23) rfl) rfl
theorem wd_4105 : Cond.instanceMethod ⟨"CarHouseModel$Chart", "choose", "(I)I"⟩ ∈ GT := gt_18 (List.mem_of_getElem? (i := 25) rfl) rfl
theorem wd_4106 : Cond.code ⟨"CarHouseModel$Chart", "choose", "(I)I"⟩ prog_16_method_24_code 6 (some .int) ∈ GT := gt_18 (List.mem_of_getElem? (i := 26) rfl) rfl
theorem wd_4107 : Cond.methodLink "CarHouseModel$Chart" 167 ⟨"CarHouseModel$Chart", "waitsFor", "(I)Z"⟩ ∈ GT := gt_18 (List.mem_of_getElem? (i := 27) rfl) rfl
theorem wd_4109 : Cond.instanceMethod ⟨"CarHouseModel$Chart", "waitsFor", "(I)Z"⟩ ∈ GT := gt_18 (List.mem_of_getElem? (i := 29) rfl) rfl
theorem wd_4110 : Cond.code ⟨"CarHouseModel$Chart", "waitsFor", "(I)Z"⟩ prog_16_method_21_code 5 (some .boolean) ∈ GT := gt_18 (List.mem_of_getElem? (i := 30) rfl) rfl
theorem wd_4111 : Cond.methodLink "CarHouseModel$Chart" 154 ⟨"CarHouseModel$Chart", "saysSource", "(II)Z"⟩ ∈ GT := gt_18 (List.mem_of_getElem? (i := 31) rfl) rfl
theorem wd_4113 : Cond.instanceMethod ⟨"CarHouseModel$Chart", "saysSource", "(II)Z"⟩ ∈ GT := gt_18 (List.mem_of_getElem? (i := 33) rfl) rfl
theorem wd_4114 : Cond.code ⟨"CarHouseModel$Chart", "saysSource", "(II)Z"⟩ prog_16_method_19_code 3 (some .boolean) ∈ GT := gt_18 (List.mem_of_getElem? (i := 34) rfl) rfl
theorem wd_4115 : Cond.methodLink "CarHouseModel$Chart" 170 ⟨"CarHouseModel$Chart", "holds", "(I)Z"⟩ ∈ GT := gt_18 (List.mem_of_getElem? (i := 35) rfl) rfl
theorem wd_4117 : Cond.instanceMethod ⟨"CarHouseModel$Chart", "holds", "(I)Z"⟩ ∈ GT := gt_18 (List.mem_of_getElem? (i := 37) rfl) rfl
theorem wd_4118 : Cond.code ⟨"CarHouseModel$Chart", "holds", "(I)Z"⟩ prog_16_method_18_code 8 (some .boolean) ∈ GT := gt_18 (List.mem_of_getElem? (i := 38) rfl) rfl
theorem wd_4119 : Cond.methodLink "CarHouseModel$Chart" 150 ⟨"CarHouseModel$Chart", "ask", "(IJJ)J"⟩ ∈ GT := gt_18 (List.mem_of_getElem? (i := 39) rfl) rfl
theorem wd_4120 : Cond.static ⟨"CarHouseModel$Chart", "ask", "(IJJ)J"⟩ ∈ GT := gt_18 (List.mem_of_getElem? (i := 40) rfl) rfl
theorem wd_4121 : Cond.code ⟨"CarHouseModel$Chart", "ask", "(IJJ)J"⟩ prog_16_method_16_code 5 (some .long) ∈ GT := gt_18 (List.mem_of_getElem? (i := 41) rfl) rfl
theorem wd_4122 : Cond.methodLink "CarHouseModel$Chart" 176 ⟨"CarHouseModel$Chart", "domain", "(I)I"⟩ ∈ GT := gt_18 (List.mem_of_getElem? (i := 42) rfl) rfl
theorem wd_4124 : Cond.instanceMethod ⟨"CarHouseModel$Chart", "domain", "(I)I"⟩ ∈ GT := gt_18 (List.mem_of_getElem? (i := 44) rfl) rfl
theorem wd_4125 : Cond.code ⟨"CarHouseModel$Chart", "domain", "(I)I"⟩ prog_16_method_22_code 6 (some .int) ∈ GT := gt_18 (List.mem_of_getElem? (i := 45) rfl) rfl
theorem wd_4126 : Cond.methodLink "CarHouseModel$Chart" 158 ⟨"CarHouseModel$Chart", "inside", "(II)Z"⟩ ∈ GT := gt_18 (List.mem_of_getElem? (i := 46) rfl) rfl
theorem wd_4128 : Cond.instanceMethod ⟨"CarHouseModel$Chart", "inside", "(II)Z"⟩ ∈ GT := gt_18 (List.mem_of_getElem? (i := 48) rfl) rfl
theorem wd_4129 : Cond.code ⟨"CarHouseModel$Chart", "inside", "(II)Z"⟩ prog_16_method_14_code 4 (some .boolean) ∈ GT := gt_18 (List.mem_of_getElem? (i := 49) rfl) rfl
theorem wd_4130 : Cond.methodLink "CarHouseModel$Chart" 180 ⟨"CarHouseModel$Chart", "findExits", "(I)V"⟩ ∈ GT := gt_18 (List.mem_of_getElem? (i := 50) rfl) rfl
theorem wd_4132 : Cond.instanceMethod ⟨"CarHouseModel$Chart", "findExits", "(I)V"⟩ ∈ GT := gt_18 (List.mem_of_getElem? (i := 52) rfl) rfl
theorem wd_4133 : Cond.code ⟨"CarHouseModel$Chart", "findExits", "(I)V"⟩ prog_16_method_23_code 3 none ∈ GT := gt_18 (List.mem_of_getElem? (i := 53) rfl) rfl
theorem wd_4134 : Cond.methodLink "CarHouseModel$Chart" 211 ⟨"CarHouseModel$Chart", "step", "(J)I"⟩ ∈ GT := gt_18 (List.mem_of_getElem? (i := 54) rfl) rfl
theorem wd_4136 : Cond.instanceMethod ⟨"CarHouseModel$Chart", "step", "(J)I"⟩ ∈ GT := gt_18 (List.mem_of_getElem? (i := 56) rfl) rfl
theorem wd_4137 : Cond.code ⟨"CarHouseModel$Chart", "step", "(J)I"⟩ prog_16_method_30_code 4 (some .int) ∈ GT := gt_18 (List.mem_of_getElem? (i := 57) rfl) rfl
theorem wd_4138 : Cond.methodLink "CarHouseModel$Chart" 204 ⟨"CarHouseModel$Chart", "take", "(IJ)V"⟩ ∈ GT := gt_18 (List.mem_of_getElem? (i := 58) rfl) rfl
theorem wd_4140 : Cond.instanceMethod ⟨"CarHouseModel$Chart", "take", "(IJ)V"⟩ ∈ GT := gt_18 (List.mem_of_getElem? (i := 60) rfl) rfl
theorem wd_4141 : Cond.code ⟨"CarHouseModel$Chart", "take", "(IJ)V"⟩ prog_16_method_25_code 7 none ∈ GT := gt_18 (List.mem_of_getElem? (i := 61) rfl) rfl
theorem wd_4142 : Cond.methodLink "CarHouseModel$Chart" 220 ⟨"CarHouseModel$Chart", "due", "(J)I"⟩ ∈ GT := gt_18 (List.mem_of_getElem? (i := 62) rfl) rfl
theorem wd_4144 : Cond.instanceMethod ⟨"CarHouseModel$Chart", "due", "(J)I"⟩ ∈ GT := gt_18 (List.mem_of_getElem? (i := 64) rfl) rfl
theorem wd_4145 : Cond.code ⟨"CarHouseModel$Chart", "due", "(J)I"⟩ prog_16_method_32_code 6 (some .int) ∈ GT := gt_18 (List.mem_of_getElem? (i := 65) rfl) rfl
theorem wd_4146 : Cond.constantLong "CarHouseModel" 802 3 ∈ GT := gt_18 (List.mem_of_getElem? (i := 66) rfl) rfl
theorem wd_4147 : Cond.methodLink "CarHouseModel" 804 ⟨"CarHouseModel", "transferred", "()V"⟩ ∈ GT := gt_18 (List.mem_of_getElem? (i := 67) rfl) rfl
theorem wd_4149 : Cond.instanceMethod ⟨"CarHouseModel", "transferred", "()V"⟩ ∈ GT := gt_18 (List.mem_of_getElem? (i := 69) rfl) rfl
theorem wd_4150 : Cond.code ⟨"CarHouseModel", "transferred", "()V"⟩ prog_14_method_60_code 8 none ∈ GT := gt_18 (List.mem_of_getElem? (i := 70) rfl) rfl
theorem wd_4151 : Cond.methodLink "CarHouseModel" 738 ⟨"CarHouseModel$Transfer", "tick", "(J)I"⟩ ∈ GT := gt_18 (List.mem_of_getElem? (i := 71) rfl) rfl
theorem wd_4152 : Cond.instanceMethod ⟨"CarHouseModel$Transfer", "tick", "(J)I"⟩ ∈ GT := gt_18 (List.mem_of_getElem? (i := 72) rfl) rfl
theorem wd_4153 : Cond.selects "CarHouseModel$Transfer" ⟨"CarHouseModel$Transfer", "tick", "(J)I"⟩ ⟨"CarHouseModel$Transfer", "tick", "(J)I"⟩ ∈ GT := gt_18 (List.mem_of_getElem? (i := 73) rfl) rfl
theorem wd_4154 : Cond.code ⟨"CarHouseModel$Transfer", "tick", "(J)I"⟩ prog_20_method_22_code 5 (some .int) ∈ GT := gt_18 (List.mem_of_getElem? (i := 74) rfl) rfl
theorem wd_4155 : Cond.constantLong "CarHouseModel$Transfer" 190 5000 ∈ GT := gt_18 (List.mem_of_getElem? (i := 75) rfl) rfl
theorem wd_4156 : Cond.methodLink "CarHouseModel$Transfer" 192 ⟨"CarHouseModel$Transfer", "sum", "()I"⟩ ∈ GT := gt_18 (List.mem_of_getElem? (i := 76) rfl) rfl
theorem wd_4158 : Cond.instanceMethod ⟨"CarHouseModel$Transfer", "sum", "()I"⟩ ∈ GT := gt_18 (List.mem_of_getElem? (i := 78) rfl) rfl
theorem wd_4159 : Cond.code ⟨"CarHouseModel$Transfer", "sum", "()I"⟩ prog_20_method_21_code 3 (some .int) ∈ GT := gt_18 (List.mem_of_getElem? (i := 79) rfl) rfl
theorem wd_4160 : Cond.methodLink "CarHouseModel$Transfer" 196 ⟨"CarHouseModel$Transfer", "start", "(I)V"⟩ ∈ GT := gt_18 (List.mem_of_getElem? (i := 80) rfl) rfl
theorem wd_4162 : Cond.instanceMethod ⟨"CarHouseModel$Transfer", "start", "(I)V"⟩ ∈ GT := gt_18 (List.mem_of_getElem? (i := 82) rfl) rfl
theorem wd_4163 : Cond.code ⟨"CarHouseModel$Transfer", "start", "(I)V"⟩ prog_20_method_10_code 5 none ∈ GT := gt_18 (List.mem_of_getElem? (i := 83) rfl) rfl
theorem wd_4164 : Cond.methodLink "CarHouseModel$Transfer" 155 ⟨"CarHouseModel$Transfer", "fill", "(IIII)V"⟩ ∈ GT := gt_18 (List.mem_of_getElem? (i := 84) rfl) rfl
theorem wd_4166 : Cond.instanceMethod ⟨"CarHouseModel$Transfer", "fill", "(IIII)V"⟩ ∈ GT := gt_18 (List.mem_of_getElem? (i := 86) rfl) rfl
theorem wd_4167 : Cond.code ⟨"CarHouseModel$Transfer", "fill", "(IIII)V"⟩ prog_20_method_8_code 6 none ∈ GT := gt_18 (List.mem_of_getElem? (i := 87) rfl) rfl
theorem wd_4168 : Cond.methodLink "CarHouseModel$Transfer" 199 ⟨"CarHouseModel$Transfer", "moment", "()V"⟩ ∈ GT := gt_18 (List.mem_of_getElem? (i := 88) rfl) rfl
theorem wd_4170 : Cond.instanceMethod ⟨"CarHouseModel$Transfer", "moment", "()V"⟩ ∈ GT := gt_18 (List.mem_of_getElem? (i := 90) rfl) rfl
theorem wd_4171 : Cond.code ⟨"CarHouseModel$Transfer", "moment", "()V"⟩ prog_20_method_20_code 3 none ∈ GT := gt_18 (List.mem_of_getElem? (i := 91) rfl) rfl
theorem wd_4172 : Cond.methodLink "CarHouseModel$Transfer" 181 ⟨"CarHouseModel$Transfer", "senderDue", "(I)Z"⟩ ∈ GT := gt_18 (List.mem_of_getElem? (i := 92) rfl) rfl
theorem wd_4174 : Cond.instanceMethod ⟨"CarHouseModel$Transfer", "senderDue", "(I)Z"⟩ ∈ GT := gt_18 (List.mem_of_getElem? (i := 94) rfl) rfl
theorem wd_4175 : Cond.code ⟨"CarHouseModel$Transfer", "senderDue", "(I)Z"⟩ prog_20_method_19_code 2 (some .boolean) ∈ GT := gt_18 (List.mem_of_getElem? (i := 95) rfl) rfl
theorem wd_4176 : Cond.constantLong "CarHouseModel$Transfer" 179 1000 ∈ GT := gt_18 (List.mem_of_getElem? (i := 96) rfl) rfl
theorem wd_4177 : Cond.methodLink "CarHouseModel$Transfer" 185 ⟨"CarHouseModel$Transfer", "sendNext", "(I)V"⟩ ∈ GT := gt_18 (List.mem_of_getElem? (i := 97) rfl) rfl
theorem wd_4179 : Cond.instanceMethod ⟨"CarHouseModel$Transfer", "sendNext", "(I)V"⟩ ∈ GT := gt_18 (List.mem_of_getElem? (i := 99) rfl) rfl
theorem wd_4180 : Cond.code ⟨"CarHouseModel$Transfer", "sendNext", "(I)V"⟩ prog_20_method_11_code 5 none ∈ GT := gt_18 (List.mem_of_getElem? (i := 100) rfl) rfl
theorem wd_4181 : Cond.constantLong "CarHouseModel$Transfer" 188 500 ∈ GT := gt_18 (List.mem_of_getElem? (i := 101) rfl) rfl
theorem wd_4182 : Cond.methodLink "CarHouseModel" 741 ⟨"CarHouseModel$Transfer", "lose", "(I)Z"⟩ ∈ GT := gt_18 (List.mem_of_getElem? (i := 102) rfl) rfl
theorem wd_4183 : Cond.instanceMethod ⟨"CarHouseModel$Transfer", "lose", "(I)Z"⟩ ∈ GT := gt_18 (List.mem_of_getElem? (i := 103) rfl) rfl
theorem wd_4184 : Cond.selects "CarHouseModel$Transfer" ⟨"CarHouseModel$Transfer", "lose", "(I)Z"⟩ ⟨"CarHouseModel$Transfer", "lose", "(I)Z"⟩ ∈ GT := gt_18 (List.mem_of_getElem? (i := 104) rfl) rfl
theorem wd_4185 : Cond.code ⟨"CarHouseModel$Transfer", "lose", "(I)Z"⟩ prog_20_method_24_code 3 (some .boolean) ∈ GT := gt_18 (List.mem_of_getElem? (i := 105) rfl) rfl
theorem wd_4186 : Cond.methodLink "CarHouseLaw" 113 ⟨"CarHouseModel", "place", "()I"⟩ ∈ GT := gt_18 (List.mem_of_getElem? (i := 106) rfl) rfl
theorem wd_4187 : Cond.instanceMethod ⟨"CarHouseModel", "place", "()I"⟩ ∈ GT := gt_18 (List.mem_of_getElem? (i := 107) rfl) rfl
theorem wd_4188 : Cond.selects "CarHouseModel" ⟨"CarHouseModel", "place", "()I"⟩ ⟨"CarHouseModel", "place", "()I"⟩ ∈ GT := gt_18 (List.mem_of_getElem? (i := 108) rfl) rfl
theorem wd_4189 : Cond.code ⟨"CarHouseModel", "place", "()I"⟩ prog_14_method_74_code 1 (some .int) ∈ GT := gt_18 (List.mem_of_getElem? (i := 109) rfl) rfl
theorem wd_4190 : Cond.methodLink "CarHouseLaw" 116 ⟨"CarHouseModel", "count", "(I)I"⟩ ∈ GT := gt_18 (List.mem_of_getElem? (i := 110) rfl) rfl
theorem wd_4191 : Cond.instanceMethod ⟨"CarHouseModel", "count", "(I)I"⟩ ∈ GT := gt_18 (List.mem_of_getElem? (i := 111) rfl) rfl
theorem wd_4192 : Cond.selects "CarHouseModel" ⟨"CarHouseModel", "count", "(I)I"⟩ ⟨"CarHouseModel", "count", "(I)I"⟩ ∈ GT := gt_18 (List.mem_of_getElem? (i := 112) rfl) rfl
theorem wd_4193 : Cond.code ⟨"CarHouseModel", "count", "(I)I"⟩ prog_14_method_75_code 2 (some .int) ∈ GT := gt_18 (List.mem_of_getElem? (i := 113) rfl) rfl
theorem wd_4194 : Cond.methodLink "CarHouseLaw" 120 ⟨"CarHouseModel", "frame", "(II)I"⟩ ∈ GT := gt_18 (List.mem_of_getElem? (i := 114) rfl) rfl
theorem wd_4195 : Cond.instanceMethod ⟨"CarHouseModel", "frame", "(II)I"⟩ ∈ GT := gt_18 (List.mem_of_getElem? (i := 115) rfl) rfl
theorem wd_4196 : Cond.selects "CarHouseModel" ⟨"CarHouseModel", "frame", "(II)I"⟩ ⟨"CarHouseModel", "frame", "(II)I"⟩ ∈ GT := gt_18 (List.mem_of_getElem? (i := 116) rfl) rfl
theorem wd_4197 : Cond.code ⟨"CarHouseModel", "frame", "(II)I"⟩ prog_14_method_76_code 3 (some .int) ∈ GT := gt_18 (List.mem_of_getElem? (i := 117) rfl) rfl
theorem wd_4198 : Cond.methodLink "CarHouseLaw" 124 ⟨"CarHouseModel", "signal", "(IZ)I"⟩ ∈ GT := gt_18 (List.mem_of_getElem? (i := 118) rfl) rfl
theorem wd_4199 : Cond.instanceMethod ⟨"CarHouseModel", "signal", "(IZ)I"⟩ ∈ GT := gt_18 (List.mem_of_getElem? (i := 119) rfl) rfl
theorem wd_4200 : Cond.selects "CarHouseModel" ⟨"CarHouseModel", "signal", "(IZ)I"⟩ ⟨"CarHouseModel", "signal", "(IZ)I"⟩ ∈ GT := gt_18 (List.mem_of_getElem? (i := 120) rfl) rfl
theorem wd_4201 : Cond.code ⟨"CarHouseModel", "signal", "(IZ)I"⟩ prog_14_method_77_code 3 (some .int) ∈ GT := gt_18 (List.mem_of_getElem? (i := 121) rfl) rfl
theorem wd_4202 : Cond.methodLink "CarHouseLaw" 131 ⟨"CarHouseModel", "time", "()I"⟩ ∈ GT := gt_18 (List.mem_of_getElem? (i := 122) rfl) rfl
theorem wd_4203 : Cond.instanceMethod ⟨"CarHouseModel", "time", "()I"⟩ ∈ GT := gt_18 (List.mem_of_getElem? (i := 123) rfl) rfl
theorem wd_4204 : Cond.selects "CarHouseModel" ⟨"CarHouseModel", "time", "()I"⟩ ⟨"CarHouseModel", "time", "()I"⟩ ∈ GT := gt_18 (List.mem_of_getElem? (i := 124) rfl) rfl
theorem wd_4205 : Cond.code ⟨"CarHouseModel", "time", "()I"⟩ prog_14_method_78_code 1 (some .int) ∈ GT := gt_18 (List.mem_of_getElem? (i := 125) rfl) rfl
theorem wd_4206 : Cond.methodLink "CarHouseLaw" 134 ⟨"CarHouseModel", "bit", "(I)I"⟩ ∈ GT := gt_18 (List.mem_of_getElem? (i := 126) rfl) rfl
theorem wd_4207 : Cond.instanceMethod ⟨"CarHouseModel", "bit", "(I)I"⟩ ∈ GT := gt_18 (List.mem_of_getElem? (i := 127) rfl) rfl
theorem wd_4208 : Cond.selects "CarHouseModel" ⟨"CarHouseModel", "bit", "(I)I"⟩ ⟨"CarHouseModel", "bit", "(I)I"⟩ ∈ GT := gt_18 (List.mem_of_getElem? (i := 128) rfl) rfl
theorem wd_4209 : Cond.code ⟨"CarHouseModel", "bit", "(I)I"⟩ prog_14_method_79_code 2 (some .int) ∈ GT := gt_18 (List.mem_of_getElem? (i := 129) rfl) rfl
theorem wd_4210 : Cond.methodLink "CarHouseModel" 812 ⟨"CarHouseModel$Bus", "bit", "(I)I"⟩ ∈ GT := gt_18 (List.mem_of_getElem? (i := 130) rfl) rfl
theorem wd_4211 : Cond.instanceMethod ⟨"CarHouseModel$Bus", "bit", "(I)I"⟩ ∈ GT := gt_18 (List.mem_of_getElem? (i := 131) rfl) rfl
theorem wd_4212 : Cond.selects "CarHouseModel$Bus" ⟨"CarHouseModel$Bus", "bit", "(I)I"⟩ ⟨"CarHouseModel$Bus", "bit", "(I)I"⟩ ∈ GT := gt_18 (List.mem_of_getElem? (i := 132) rfl) rfl
theorem wd_4213 : Cond.code ⟨"CarHouseModel$Bus", "bit", "(I)I"⟩ prog_15_method_45_code 2 (some .int) ∈ GT := gt_18 (List.mem_of_getElem? (i := 133) rfl) rfl
theorem wd_4214 : Cond.methodLink "CarHouseLaw" 137 ⟨"CarHouseModel", "node", "(II)I"⟩ ∈ GT := gt_18 (List.mem_of_getElem? (i := 134) rfl) rfl
theorem wd_4215 : Cond.instanceMethod ⟨"CarHouseModel", "node", "(II)I"⟩ ∈ GT := gt_18 (List.mem_of_getElem? (i := 135) rfl) rfl
theorem wd_4216 : Cond.selects "CarHouseModel" ⟨"CarHouseModel", "node", "(II)I"⟩ ⟨"CarHouseModel", "node", "(II)I"⟩ ∈ GT := gt_18 (List.mem_of_getElem? (i := 136) rfl) rfl
theorem wd_4217 : Cond.code ⟨"CarHouseModel", "node", "(II)I"⟩ prog_14_method_80_code 3 (some .int) ∈ GT := gt_18 (List.mem_of_getElem? (i := 137) rfl) rfl
theorem wd_4218 : Cond.methodLink "CarHouseModel" 815 ⟨"CarHouseModel$Bus", "state", "(I)I"⟩ ∈ GT := gt_18 (List.mem_of_getElem? (i := 138) rfl) rfl
theorem wd_4219 : Cond.instanceMethod ⟨"CarHouseModel$Bus", "state", "(I)I"⟩ ∈ GT := gt_18 (List.mem_of_getElem? (i := 139) rfl) rfl
theorem wd_4220 : Cond.selects "CarHouseModel$Bus" ⟨"CarHouseModel$Bus", "state", "(I)I"⟩ ⟨"CarHouseModel$Bus", "state", "(I)I"⟩ ∈ GT := gt_18 (List.mem_of_getElem? (i := 140) rfl) rfl
theorem wd_4221 : Cond.code ⟨"CarHouseModel$Bus", "state", "(I)I"⟩ prog_15_method_47_code 2 (some .int) ∈ GT := gt_18 (List.mem_of_getElem? (i := 141) rfl) rfl
theorem wd_4222 : Cond.methodLink "CarHouseModel" 816 ⟨"CarHouseModel$Bus", "waiting", "(I)I"⟩ ∈ GT := gt_18 (List.mem_of_getElem? (i := 142) rfl) rfl
theorem wd_4223 : Cond.instanceMethod ⟨"CarHouseModel$Bus", "waiting", "(I)I"⟩ ∈ GT := gt_18 (List.mem_of_getElem? (i := 143) rfl) rfl
theorem wd_4224 : Cond.selects "CarHouseModel$Bus" ⟨"CarHouseModel$Bus", "waiting", "(I)I"⟩ ⟨"CarHouseModel$Bus", "waiting", "(I)I"⟩ ∈ GT := gt_18 (List.mem_of_getElem? (i := 144) rfl) rfl
theorem wd_4225 : Cond.code ⟨"CarHouseModel$Bus", "waiting", "(I)I"⟩ prog_15_method_22_code 4 (some .int) ∈ GT := gt_18 (List.mem_of_getElem? (i := 145) rfl) rfl
theorem wd_4226 : Cond.methodLink "CarHouseLaw" 140 ⟨"CarHouseModel", "error", "(II)I"⟩ ∈ GT := gt_18 (List.mem_of_getElem? (i := 146) rfl) rfl
theorem wd_4227 : Cond.instanceMethod ⟨"CarHouseModel", "error", "(II)I"⟩ ∈ GT := gt_18 (List.mem_of_getElem? (i := 147) rfl) rfl
theorem wd_4228 : Cond.selects "CarHouseModel" ⟨"CarHouseModel", "error", "(II)I"⟩ ⟨"CarHouseModel", "error", "(II)I"⟩ ∈ GT := gt_18 (List.mem_of_getElem? (i := 148) rfl) rfl
theorem wd_4229 : Cond.code ⟨"CarHouseModel", "error", "(II)I"⟩ prog_14_method_81_code 4 (some .int) ∈ GT := gt_18 (List.mem_of_getElem? (i := 149) rfl) rfl
theorem wd_4230 : Cond.methodLink "CarHouseModel" 819 ⟨"CarHouseModel$Bus", "error", "(II)I"⟩ ∈ GT := gt_18 (List.mem_of_getElem? (i := 150) rfl) rfl
theorem wd_4231 : Cond.instanceMethod ⟨"CarHouseModel$Bus", "error", "(II)I"⟩ ∈ GT := gt_18 (List.mem_of_getElem? (i := 151) rfl) rfl
theorem wd_4232 : Cond.selects "CarHouseModel$Bus" ⟨"CarHouseModel$Bus", "error", "(II)I"⟩ ⟨"CarHouseModel$Bus", "error", "(II)I"⟩ ∈ GT := gt_18 (List.mem_of_getElem? (i := 152) rfl) rfl
theorem wd_4233 : Cond.code ⟨"CarHouseModel$Bus", "error", "(II)I"⟩ prog_15_method_52_code 3 (some .int) ∈ GT := gt_18 (List.mem_of_getElem? (i := 153) rfl) rfl
theorem wd_4234 : Cond.methodLink "CarHouseLaw" 144 ⟨"CarHouseModel", "flip", "(II)V"⟩ ∈ GT := gt_18 (List.mem_of_getElem? (i := 154) rfl) rfl
theorem wd_4235 : Cond.instanceMethod ⟨"CarHouseModel", "flip", "(II)V"⟩ ∈ GT := gt_18 (List.mem_of_getElem? (i := 155) rfl) rfl
theorem wd_4236 : Cond.selects "CarHouseModel" ⟨"CarHouseModel", "flip", "(II)V"⟩ ⟨"CarHouseModel", "flip", "(II)V"⟩ ∈ GT := gt_18 (List.mem_of_getElem? (i := 156) rfl) rfl
theorem wd_4237 : Cond.code ⟨"CarHouseModel", "flip", "(II)V"⟩ prog_14_method_82_code 3 none ∈ GT := gt_18 (List.mem_of_getElem? (i := 157) rfl) rfl
theorem wd_4238 : Cond.methodLink "CarHouseModel" 822 ⟨"CarHouseModel$Bus", "flip", "(II)V"⟩ ∈ GT := gt_18 (List.mem_of_getElem? (i := 158) rfl) rfl
theorem wd_4239 : Cond.instanceMethod ⟨"CarHouseModel$Bus", "flip", "(II)V"⟩ ∈ GT := gt_18 (List.mem_of_getElem? (i := 159) rfl) rfl
theorem wd_4240 : Cond.selects "CarHouseModel$Bus" ⟨"CarHouseModel$Bus", "flip", "(II)V"⟩ ⟨"CarHouseModel$Bus", "flip", "(II)V"⟩ ∈ GT := gt_18 (List.mem_of_getElem? (i := 160) rfl) rfl
theorem wd_4241 : Cond.code ⟨"CarHouseModel$Bus", "flip", "(II)V"⟩ prog_15_method_24_code 3 none ∈ GT := gt_18 (List.mem_of_getElem? (i := 161) rfl) rfl
theorem wd_4242 : Cond.methodLink "CarHouseLaw" 147 ⟨"CarHouseModel", "silence", "(IZ)I"⟩ ∈ GT := gt_18 (List.mem_of_getElem? (i := 162) rfl) rfl
theorem wd_4243 : Cond.instanceMethod ⟨"CarHouseModel", "silence", "(IZ)I"⟩ ∈ GT := gt_18 (List.mem_of_getElem? (i := 163) rfl) rfl
theorem wd_4244 : Cond.selects "CarHouseModel" ⟨"CarHouseModel", "silence", "(IZ)I"⟩ ⟨"CarHouseModel", "silence", "(IZ)I"⟩ ∈ GT := gt_18 (List.mem_of_getElem? (i := 164) rfl) rfl
theorem wd_4245 : Cond.code ⟨"CarHouseModel", "silence", "(IZ)I"⟩ prog_14_method_84_code 5 (some .int) ∈ GT := gt_18 (List.mem_of_getElem? (i := 165) rfl) rfl
theorem wd_4246 : Cond.methodLink "CarHouseModel" 825 ⟨"CarHouseModel", "noController", "(I)Z"⟩ ∈ GT := gt_18 (List.mem_of_getElem? (i := 166) rfl) rfl
theorem wd_4248 : Cond.instanceMethod ⟨"CarHouseModel", "noController", "(I)Z"⟩ ∈ GT := gt_18 (List.mem_of_getElem? (i := 168) rfl) rfl
theorem wd_4249 : Cond.code ⟨"CarHouseModel", "noController", "(I)Z"⟩ prog_14_method_83_code 2 (some .boolean) ∈ GT := gt_18 (List.mem_of_getElem? (i := 169) rfl) rfl
theorem wd_4250 : Cond.methodLink "CarHouseLaw" 150 ⟨"CarHouseModel", "running", "(II)I"⟩ ∈ GT := gt_18 (List.mem_of_getElem? (i := 170) rfl) rfl
theorem wd_4251 : Cond.instanceMethod ⟨"CarHouseModel", "running", "(II)I"⟩ ∈ GT := gt_18 (List.mem_of_getElem? (i := 171) rfl) rfl
theorem wd_4252 : Cond.selects "CarHouseModel" ⟨"CarHouseModel", "running", "(II)I"⟩ ⟨"CarHouseModel", "running", "(II)I"⟩ ∈ GT := gt_18 (List.mem_of_getElem? (i := 172) rfl) rfl
theorem wd_4253 : Cond.code ⟨"CarHouseModel", "running", "(II)I"⟩ prog_14_method_85_code 3 (some .int) ∈ GT := gt_18 (List.mem_of_getElem? (i := 173) rfl) rfl
theorem wd_4254 : Cond.methodLink "CarHouseModel" 828 ⟨"CarHouseModel$Cores", "running", "(IJ)I"⟩ ∈ GT := gt_18 (List.mem_of_getElem? (i := 174) rfl) rfl
theorem wd_4255 : Cond.instanceMethod ⟨"CarHouseModel$Cores", "running", "(IJ)I"⟩ ∈ GT := gt_18 (List.mem_of_getElem? (i := 175) rfl) rfl
theorem wd_4256 : Cond.selects "CarHouseModel$Cores" ⟨"CarHouseModel$Cores", "running", "(IJ)I"⟩ ⟨"CarHouseModel$Cores", "running", "(IJ)I"⟩ ∈ GT := gt_18 (List.mem_of_getElem? (i := 176) rfl) rfl
theorem wd_4257 : Cond.code ⟨"CarHouseModel$Cores", "running", "(IJ)I"⟩ prog_18_method_31_code 4 (some .int) ∈ GT := gt_18 (List.mem_of_getElem? (i := 177) rfl) rfl
theorem wd_4258 : Cond.methodLink "CarHouseLaw" 153 ⟨"CarHouseModel", "task", "(II)I"⟩ ∈ GT := gt_18 (List.mem_of_getElem? (i := 178) rfl) rfl
theorem wd_4259 : Cond.instanceMethod ⟨"CarHouseModel", "task", "(II)I"⟩ ∈ GT := gt_18 (List.mem_of_getElem? (i := 179) rfl) rfl
theorem wd_4260 : Cond.selects "CarHouseModel" ⟨"CarHouseModel", "task", "(II)I"⟩ ⟨"CarHouseModel", "task", "(II)I"⟩ ∈ GT := gt_18 (List.mem_of_getElem? (i := 180) rfl) rfl
theorem wd_4261 : Cond.code ⟨"CarHouseModel", "task", "(II)I"⟩ prog_14_method_86_code 3 (some .int) ∈ GT := gt_18 (List.mem_of_getElem? (i := 181) rfl) rfl
theorem wd_4262 : Cond.methodLink "CarHouseModel" 831 ⟨"CarHouseModel$Cores", "state", "(I)I"⟩ ∈ GT := gt_18 (List.mem_of_getElem? (i := 182) rfl) rfl
theorem wd_4263 : Cond.instanceMethod ⟨"CarHouseModel$Cores", "state", "(I)I"⟩ ∈ GT := gt_18 (List.mem_of_getElem? (i := 183) rfl) rfl
theorem wd_4264 : Cond.selects "CarHouseModel$Cores" ⟨"CarHouseModel$Cores", "state", "(I)I"⟩ ⟨"CarHouseModel$Cores", "state", "(I)I"⟩ ∈ GT := gt_18 (List.mem_of_getElem? (i := 184) rfl) rfl
theorem wd_4265 : Cond.code ⟨"CarHouseModel$Cores", "state", "(I)I"⟩ prog_18_method_33_code 2 (some .int) ∈ GT := gt_18 (List.mem_of_getElem? (i := 185) rfl) rfl
theorem wd_4266 : Cond.methodLink "CarHouseLaw" 156 ⟨"CarHouseModel", "active", "(II)I"⟩ ∈ GT := gt_18 (List.mem_of_getElem? (i := 186) rfl) rfl
theorem wd_4267 : Cond.instanceMethod ⟨"CarHouseModel", "active", "(II)I"⟩ ∈ GT := gt_18 (List.mem_of_getElem? (i := 187) rfl) rfl
theorem wd_4268 : Cond.selects "CarHouseModel" ⟨"CarHouseModel", "active", "(II)I"⟩ ⟨"CarHouseModel", "active", "(II)I"⟩ ∈ GT := gt_18 (List.mem_of_getElem? (i := 188) rfl) rfl
theorem wd_4269 : Cond.code ⟨"CarHouseModel", "active", "(II)I"⟩ prog_14_method_88_code 3 (some .int) ∈ GT := gt_18 (List.mem_of_getElem? (i := 189) rfl) rfl
theorem wd_4270 : Cond.methodLink "CarHouseModel" 832 ⟨"CarHouseModel", "noChart", "(I)Z"⟩ ∈ GT := gt_18 (List.mem_of_getElem? (i := 190) rfl) rfl
theorem wd_4272 : Cond.instanceMethod ⟨"CarHouseModel", "noChart", "(I)Z"⟩ ∈ GT := gt_18 (List.mem_of_getElem? (i := 192) rfl) rfl
theorem wd_4273 : Cond.code ⟨"CarHouseModel", "noChart", "(I)Z"⟩ prog_14_method_87_code 2 (some .boolean) ∈ GT := gt_18 (List.mem_of_getElem? (i := 193) rfl) rfl
theorem wd_4274 : Cond.methodLink "CarHouseModel" 835 ⟨"CarHouseModel$Chart", "active", "(I)I"⟩ ∈ GT := gt_18 (List.mem_of_getElem? (i := 194) rfl) rfl
theorem wd_4275 : Cond.instanceMethod ⟨"CarHouseModel$Chart", "active", "(I)I"⟩ ∈ GT := gt_18 (List.mem_of_getElem? (i := 195) rfl) rfl
theorem wd_4276 : Cond.selects "CarHouseModel$Chart" ⟨"CarHouseModel$Chart", "active", "(I)I"⟩ ⟨"CarHouseModel$Chart", "active", "(I)I"⟩ ∈ GT := gt_18 (List.mem_of_getElem? (i := 196) rfl) rfl
theorem wd_4277 : Cond.code ⟨"CarHouseModel$Chart", "active", "(I)I"⟩ prog_16_method_34_code 3 (some .int) ∈ GT := gt_18 (List.mem_of_getElem? (i := 197) rfl) rfl
theorem wd_4278 : Cond.methodLink "CarHouseLaw" 159 ⟨"CarHouseModel", "value", "(II)J"⟩ ∈ GT := gt_18 (List.mem_of_getElem? (i := 198) rfl) rfl
theorem wd_4279 : Cond.instanceMethod ⟨"CarHouseModel", "value", "(II)J"⟩ ∈ GT := gt_18 (List.mem_of_getElem? (i := 199) rfl) rfl
theorem wd_4280 : Cond.selects "CarHouseModel" ⟨"CarHouseModel", "value", "(II)J"⟩ ⟨"CarHouseModel", "value", "(II)J"⟩ ∈ GT := gt_18 (List.mem_of_getElem? (i := 200) rfl) rfl
theorem wd_4281 : Cond.code ⟨"CarHouseModel", "value", "(II)J"⟩ prog_14_method_89_code 3 (some .long) ∈ GT := gt_18 (List.mem_of_getElem? (i := 201) rfl) rfl
theorem wd_4282 : Cond.methodLink "CarHouseLaw" 162 ⟨"CarHouseModel", "chart", "(II)I"⟩ ∈ GT := gt_18 (List.mem_of_getElem? (i := 202) rfl) rfl
theorem wd_4283 : Cond.instanceMethod ⟨"CarHouseModel", "chart", "(II)I"⟩ ∈ GT := gt_18 (List.mem_of_getElem? (i := 203) rfl) rfl
theorem wd_4284 : Cond.selects "CarHouseModel" ⟨"CarHouseModel", "chart", "(II)I"⟩ ⟨"CarHouseModel", "chart", "(II)I"⟩ ∈ GT := gt_18 (List.mem_of_getElem? (i := 204) rfl) rfl
theorem wd_4285 : Cond.code ⟨"CarHouseModel", "chart", "(II)I"⟩ prog_14_method_90_code 3 (some .int) ∈ GT := gt_18 (List.mem_of_getElem? (i := 205) rfl) rfl
theorem wd_4286 : Cond.methodLink "CarHouseModel" 838 ⟨"CarHouseModel$Chart", "dropped", "()I"⟩ ∈ GT := gt_18 (List.mem_of_getElem? (i := 206) rfl) rfl
theorem wd_4287 : Cond.instanceMethod ⟨"CarHouseModel$Chart", "dropped", "()I"⟩ ∈ GT := gt_18 (List.mem_of_getElem? (i := 207) rfl) rfl
theorem wd_4288 : Cond.selects "CarHouseModel$Chart" ⟨"CarHouseModel$Chart", "dropped", "()I"⟩ ⟨"CarHouseModel$Chart", "dropped", "()I"⟩ ∈ GT := gt_18 (List.mem_of_getElem? (i := 208) rfl) rfl
theorem wd_4289 : Cond.code ⟨"CarHouseModel$Chart", "dropped", "()I"⟩ prog_16_method_38_code 1 (some .int) ∈ GT := gt_18 (List.mem_of_getElem? (i := 209) rfl) rfl
theorem wd_4290 : Cond.methodLink "CarHouseModel" 841 ⟨"CarHouseModel$Chart", "covered", "(I)I"⟩ ∈ GT := gt_18 (List.mem_of_getElem? (i := 210) rfl) rfl
theorem wd_4291 : Cond.instanceMethod ⟨"CarHouseModel$Chart", "covered", "(I)I"⟩ ∈ GT := gt_18 (List.mem_of_getElem? (i := 211) rfl) rfl
theorem wd_4292 : Cond.selects "CarHouseModel$Chart" ⟨"CarHouseModel$Chart", "covered", "(I)I"⟩ ⟨"CarHouseModel$Chart", "covered", "(I)I"⟩ ∈ GT := gt_18 (List.mem_of_getElem? (i := 212) rfl) rfl
theorem wd_4293 : Cond.code ⟨"CarHouseModel$Chart", "covered", "(I)I"⟩ prog_16_method_39_code 4 (some .int) ∈ GT := gt_18 (List.mem_of_getElem? (i := 213) rfl) rfl
theorem wd_4294 : Cond.methodLink "CarHouseLaw" 165 ⟨"CarHouseModel", "trouble", "(II)I"⟩ ∈ GT := gt_18 (List.mem_of_getElem? (i := 214) rfl) rfl
theorem wd_4295 : Cond.instanceMethod ⟨"CarHouseModel", "trouble", "(II)I"⟩ ∈ GT := gt_18 (List.mem_of_getElem? (i := 215) rfl) rfl
theorem wd_4296 : Cond.selects "CarHouseModel" ⟨"CarHouseModel", "trouble", "(II)I"⟩ ⟨"CarHouseModel", "trouble", "(II)I"⟩ ∈ GT := gt_18 (List.mem_of_getElem? (i := 216) rfl) rfl
theorem wd_4297 : Cond.code ⟨"CarHouseModel", "trouble", "(II)I"⟩ prog_14_method_91_code 4 (some .int) ∈ GT := gt_18 (List.mem_of_getElem? (i := 217) rfl) rfl
theorem wd_4298 : Cond.methodLink "CarHouseModel" 844 ⟨"CarHouseModel$Troubles", "age", "(I)I"⟩ ∈ GT := gt_18 (List.mem_of_getElem? (i := 218) rfl) rfl
theorem wd_4299 : Cond.instanceMethod ⟨"CarHouseModel$Troubles", "age", "(I)I"⟩ ∈ GT := gt_18 (List.mem_of_getElem? (i := 219) rfl) rfl
theorem wd_4300 : Cond.selects "CarHouseModel$Troubles" ⟨"CarHouseModel$Troubles", "age", "(I)I"⟩ ⟨"CarHouseModel$Troubles", "age", "(I)I"⟩ ∈ GT := gt_18 (List.mem_of_getElem? (i := 220) rfl) rfl
theorem wd_4301 : Cond.code ⟨"CarHouseModel$Troubles", "age", "(I)I"⟩ prog_21_method_30_code 2 (some .int) ∈ GT := gt_18 (List.mem_of_getElem? (i := 221) rfl) rfl
theorem wd_4302 : Cond.methodLink "CarHouseModel" 847 ⟨"CarHouseModel$Troubles", "snapshot", "(III)I"⟩ ∈ GT := gt_18 (List.mem_of_getElem? (i := 222) rfl) rfl
theorem wd_4303 : Cond.instanceMethod ⟨"CarHouseModel$Troubles", "snapshot", "(III)I"⟩ ∈ GT := gt_18 (List.mem_of_getElem? (i := 223) rfl) rfl
theorem wd_4304 : Cond.selects "CarHouseModel$Troubles" ⟨"CarHouseModel$Troubles", "snapshot", "(III)I"⟩ ⟨"CarHouseModel$Troubles", "snapshot", "(III)I"⟩ ∈ GT := gt_18 (List.mem_of_getElem? (i := 224) rfl) rfl
theorem wd_4305 : Cond.code ⟨"CarHouseModel$Troubles", "snapshot", "(III)I"⟩ prog_21_method_21_code 4 (some .int) ∈ GT := gt_18 (List.mem_of_getElem? (i := 225) rfl) rfl
theorem wd_4306 : Cond.methodLink "CarHouseLaw" 169 ⟨"CarHouseModel", "cycle", "(Z)I"⟩ ∈ GT := gt_18 (List.mem_of_getElem? (i := 226) rfl) rfl
theorem wd_4307 : Cond.instanceMethod ⟨"CarHouseModel", "cycle", "(Z)I"⟩ ∈ GT := gt_18 (List.mem_of_getElem? (i := 227) rfl) rfl
theorem wd_4308 : Cond.selects "CarHouseModel" ⟨"CarHouseModel", "cycle", "(Z)I"⟩ ⟨"CarHouseModel", "cycle", "(Z)I"⟩ ∈ GT := gt_18 (List.mem_of_getElem? (i := 228) rfl) rfl
theorem wd_4309 : Cond.code ⟨"CarHouseModel", "cycle", "(Z)I"⟩ prog_14_method_92_code 2 (some .int) ∈ GT := gt_18 (List.mem_of_getElem? (i := 229) rfl) rfl
theorem wd_4310 : Cond.methodLink "CarHouseModel" 850 ⟨"CarHouseModel$Troubles", "cycle", "(Z)I"⟩ ∈ GT := gt_18 (List.mem_of_getElem? (i := 230) rfl) rfl
theorem wd_4311 : Cond.instanceMethod ⟨"CarHouseModel$Troubles", "cycle", "(Z)I"⟩ ∈ GT := gt_18 (List.mem_of_getElem? (i := 231) rfl) rfl
theorem wd_4312 : Cond.selects "CarHouseModel$Troubles" ⟨"CarHouseModel$Troubles", "cycle", "(Z)I"⟩ ⟨"CarHouseModel$Troubles", "cycle", "(Z)I"⟩ ∈ GT := gt_18 (List.mem_of_getElem? (i := 232) rfl) rfl
theorem wd_4313 : Cond.code ⟨"CarHouseModel$Troubles", "cycle", "(Z)I"⟩ prog_21_method_19_code 3 (some .int) ∈ GT := gt_18 (List.mem_of_getElem? (i := 233) rfl) rfl
theorem wd_4314 : Cond.methodLink "CarHouseLaw" 172 ⟨"CarHouseModel", "counted", "(I)I"⟩ ∈ GT := gt_18 (List.mem_of_getElem? (i := 234) rfl) rfl
theorem wd_4315 : Cond.instanceMethod ⟨"CarHouseModel", "counted", "(I)I"⟩ ∈ GT := gt_18 (List.mem_of_getElem? (i := 235) rfl) rfl
theorem wd_4316 : Cond.selects "CarHouseModel" ⟨"CarHouseModel", "counted", "(I)I"⟩ ⟨"CarHouseModel", "counted", "(I)I"⟩ ∈ GT := gt_18 (List.mem_of_getElem? (i := 236) rfl) rfl
theorem wd_4317 : Cond.code ⟨"CarHouseModel", "counted", "(I)I"⟩ prog_14_method_93_code 2 (some .int) ∈ GT := gt_18 (List.mem_of_getElem? (i := 237) rfl) rfl
theorem wd_4318 : Cond.methodLink "CarHouseLaw" 177 ⟨"CarHouseModel", "say", "(B)I"⟩ ∈ GT := gt_18 (List.mem_of_getElem? (i := 238) rfl) rfl
theorem wd_4319 : Cond.instanceMethod ⟨"CarHouseModel", "say", "(B)I"⟩ ∈ GT := gt_18 (List.mem_of_getElem? (i := 239) rfl) rfl
theorem wd_4320 : Cond.selects "CarHouseModel" ⟨"CarHouseModel", "say", "(B)I"⟩ ⟨"CarHouseModel", "say", "(B)I"⟩ ∈ GT := gt_19 (List.mem_of_getElem? (i := 0) rfl) rfl
theorem wd_4321 : Cond.code ⟨"CarHouseModel", "say", "(B)I"⟩ prog_14_method_94_code 2 (some .int) ∈ GT := gt_19 (List.mem_of_getElem? (i := 1) rfl) rfl
theorem wd_4322 : Cond.methodLink "CarHouseLaw" 180 ⟨"CarHouseModel", "ask", "(I)I"⟩ ∈ GT := gt_19 (List.mem_of_getElem? (i := 2) rfl) rfl
theorem wd_4323 : Cond.instanceMethod ⟨"CarHouseModel", "ask", "(I)I"⟩ ∈ GT := gt_19 (List.mem_of_getElem? (i := 3) rfl) rfl
theorem wd_4324 : Cond.selects "CarHouseModel" ⟨"CarHouseModel", "ask", "(I)I"⟩ ⟨"CarHouseModel", "ask", "(I)I"⟩ ∈ GT := gt_19 (List.mem_of_getElem? (i := 4) rfl) rfl
theorem wd_4325 : Cond.code ⟨"CarHouseModel", "ask", "(I)I"⟩ prog_14_method_95_code 4 (some .int) ∈ GT := gt_19 (List.mem_of_getElem? (i := 5) rfl) rfl
theorem wd_4326 : Cond.methodLink "CarHouseLaw" 184 ⟨"CarHouseModel", "asking", "()I"⟩ ∈ GT := gt_19 (List.mem_of_getElem? (i := 6) rfl) rfl
theorem wd_4327 : Cond.instanceMethod ⟨"CarHouseModel", "asking", "()I"⟩ ∈ GT := gt_19 (List.mem_of_getElem? (i := 7) rfl) rfl
theorem wd_4328 : Cond.selects "CarHouseModel" ⟨"CarHouseModel", "asking", "()I"⟩ ⟨"CarHouseModel", "asking", "()I"⟩ ∈ GT := gt_19 (List.mem_of_getElem? (i := 8) rfl) rfl
theorem wd_4329 : Cond.code ⟨"CarHouseModel", "asking", "()I"⟩ prog_14_method_96_code 1 (some .int) ∈ GT := gt_19 (List.mem_of_getElem? (i := 9) rfl) rfl
theorem wd_4330 : Cond.methodLink "CarHouseLaw" 187 ⟨"CarHouseModel", "answer", "(I)I"⟩ ∈ GT := gt_19 (List.mem_of_getElem? (i := 10) rfl) rfl
theorem wd_4331 : Cond.instanceMethod ⟨"CarHouseModel", "answer", "(I)I"⟩ ∈ GT := gt_19 (List.mem_of_getElem? (i := 11) rfl) rfl
theorem wd_4332 : Cond.selects "CarHouseModel" ⟨"CarHouseModel", "answer", "(I)I"⟩ ⟨"CarHouseModel", "answer", "(I)I"⟩ ∈ GT := gt_19 (List.mem_of_getElem? (i := 12) rfl) rfl
theorem wd_4333 : Cond.code ⟨"CarHouseModel", "answer", "(I)I"⟩ prog_14_method_97_code 2 (some .int) ∈ GT := gt_19 (List.mem_of_getElem? (i := 13) rfl) rfl
theorem wd_4334 : Cond.methodLink "CarHouseLaw" 191 ⟨"CarHouseModel", "answers", "()I"⟩ ∈ GT := gt_19 (List.mem_of_getElem? (i := 14) rfl) rfl
theorem wd_4335 : Cond.instanceMethod ⟨"CarHouseModel", "answers", "()I"⟩ ∈ GT := gt_19 (List.mem_of_getElem? (i := 15) rfl) rfl
theorem wd_4336 : Cond.selects "CarHouseModel" ⟨"CarHouseModel", "answers", "()I"⟩ ⟨"CarHouseModel", "answers", "()I"⟩ ∈ GT := gt_19 (List.mem_of_getElem? (i := 16) rfl) rfl
theorem wd_4337 : Cond.code ⟨"CarHouseModel", "answers", "()I"⟩ prog_14_method_98_code 1 (some .int) ∈ GT := gt_19 (List.mem_of_getElem? (i := 17) rfl) rfl
theorem wd_4339 : Cond.fieldLink "java/lang/String" 9 "java/lang/String" "value" "[B" ∈ GT := gt_19 (List.mem_of_getElem? (i := 19) rfl) rfl
theorem wd_4340 : Cond.fieldLink "java/lang/String" 15 "java/lang/String" "coder" "B" ∈ GT := gt_19 (List.mem_of_getElem? (i := 20) rfl) rfl
theorem sl_0 : Cond.selects "CarHouse" ⟨"CarHouse", "answerLength", "()I"⟩ ⟨"CarHouse", "answerLength", "()I"⟩ ∈ GT := gs_1 (q := (⟨"CarHouse", "answerLength", "()I"⟩, 6)) (List.mem_of_getElem? (i := 0) rfl)
theorem sl_1 : Cond.selects "java/lang/Throwable" ⟨"java/lang/Throwable", "fillInStackTrace", "(I)Ljava/lang/Throwable;"⟩ ⟨"java/lang/Throwable", "fillInStackTrace", "(I)Ljava/lang/Throwable;"⟩ ∈ GT := gs_1 (q := (⟨"java/lang/Throwable", "fillInStackTrace", "(I)Ljava/lang/Throwable;"⟩, 6)) (List.mem_of_getElem? (i := 1) rfl)
theorem sl_2 : Cond.selects "CarHouse$Reader" ⟨"CarHouse$Reader", "findLineEnd", "(I)V"⟩ ⟨"CarHouse$Reader", "findLineEnd", "(I)V"⟩ ∈ GT := gs_1 (q := (⟨"CarHouse$Reader", "findLineEnd", "(I)V"⟩, 14)) (List.mem_of_getElem? (i := 2) rfl)
theorem sl_3 : Cond.selects "CarHouse$Reader" ⟨"CarHouse$Reader", "nextWord", "()V"⟩ ⟨"CarHouse$Reader", "nextWord", "()V"⟩ ∈ GT := gs_1 (q := (⟨"CarHouse$Reader", "nextWord", "()V"⟩, 14)) (List.mem_of_getElem? (i := 3) rfl)
theorem sl_4 : Cond.selects "CarHouse$Reader" ⟨"CarHouse$Reader", "readLine", "()V"⟩ ⟨"CarHouse$Reader", "readLine", "()V"⟩ ∈ GT := gs_1 (q := (⟨"CarHouse$Reader", "readLine", "()V"⟩, 14)) (List.mem_of_getElem? (i := 4) rfl)
theorem sl_5 : Cond.selects "CarHouse$Reader" ⟨"CarHouse$Reader", "indexIn", "(Ljava/lang/String;)I"⟩ ⟨"CarHouse$Reader", "indexIn", "(Ljava/lang/String;)I"⟩ ∈ GT := gs_1 (q := (⟨"CarHouse$Reader", "indexIn", "(Ljava/lang/String;)I"⟩, 14)) (List.mem_of_getElem? (i := 5) rfl)
theorem sl_6 : Cond.selects "CarHouse$Reader" ⟨"CarHouse$Reader", "standsAt", "(Ljava/lang/String;I)Z"⟩ ⟨"CarHouse$Reader", "standsAt", "(Ljava/lang/String;I)Z"⟩ ∈ GT := gs_1 (q := (⟨"CarHouse$Reader", "standsAt", "(Ljava/lang/String;I)Z"⟩, 14)) (List.mem_of_getElem? (i := 6) rfl)
theorem sl_7 : Cond.selects "CarHouse$Reader" ⟨"CarHouse$Reader", "readController", "()V"⟩ ⟨"CarHouse$Reader", "readController", "()V"⟩ ∈ GT := gs_1 (q := (⟨"CarHouse$Reader", "readController", "()V"⟩, 14)) (List.mem_of_getElem? (i := 7) rfl)
theorem sl_8 : Cond.selects "CarHouse$Reader" ⟨"CarHouse$Reader", "newName", "(III)V"⟩ ⟨"CarHouse$Reader", "newName", "(III)V"⟩ ∈ GT := gs_1 (q := (⟨"CarHouse$Reader", "newName", "(III)V"⟩, 14)) (List.mem_of_getElem? (i := 8) rfl)
theorem sl_9 : Cond.selects "CarHouse$Reader" ⟨"CarHouse$Reader", "isName", "()Z"⟩ ⟨"CarHouse$Reader", "isName", "()Z"⟩ ∈ GT := gs_1 (q := (⟨"CarHouse$Reader", "isName", "()Z"⟩, 14)) (List.mem_of_getElem? (i := 9) rfl)
theorem sl_10 : Cond.selects "CarHouse$Reader" ⟨"CarHouse$Reader", "isWord", "(Ljava/lang/String;)Z"⟩ ⟨"CarHouse$Reader", "isWord", "(Ljava/lang/String;)Z"⟩ ∈ GT := gs_1 (q := (⟨"CarHouse$Reader", "isWord", "(Ljava/lang/String;)Z"⟩, 14)) (List.mem_of_getElem? (i := 10) rfl)
theorem sl_11 : Cond.selects "CarHouse$Reader" ⟨"CarHouse$Reader", "fail", "(II)V"⟩ ⟨"CarHouse$Reader", "fail", "(II)V"⟩ ∈ GT := gs_1 (q := (⟨"CarHouse$Reader", "fail", "(II)V"⟩, 14)) (List.mem_of_getElem? (i := 11) rfl)
theorem sl_12 : Cond.selects "CarHouse$Reader" ⟨"CarHouse$Reader", "findName", "(I)I"⟩ ⟨"CarHouse$Reader", "findName", "(I)I"⟩ ∈ GT := gs_1 (q := (⟨"CarHouse$Reader", "findName", "(I)I"⟩, 14)) (List.mem_of_getElem? (i := 12) rfl)
theorem sl_13 : Cond.selects "CarHouse$Reader" ⟨"CarHouse$Reader", "isSame", "(I)Z"⟩ ⟨"CarHouse$Reader", "isSame", "(I)Z"⟩ ∈ GT := gs_1 (q := (⟨"CarHouse$Reader", "isSame", "(I)Z"⟩, 14)) (List.mem_of_getElem? (i := 13) rfl)
theorem sl_14 : Cond.selects "CarHouse$Reader" ⟨"CarHouse$Reader", "endLine", "()V"⟩ ⟨"CarHouse$Reader", "endLine", "()V"⟩ ∈ GT := gs_1 (q := (⟨"CarHouse$Reader", "endLine", "()V"⟩, 14)) (List.mem_of_getElem? (i := 14) rfl)
theorem sl_15 : Cond.selects "CarHouse$Reader" ⟨"CarHouse$Reader", "keepName", "(III)V"⟩ ⟨"CarHouse$Reader", "keepName", "(III)V"⟩ ∈ GT := gs_1 (q := (⟨"CarHouse$Reader", "keepName", "(III)V"⟩, 14)) (List.mem_of_getElem? (i := 15) rfl)
theorem sl_16 : Cond.selects "CarHouse$Reader" ⟨"CarHouse$Reader", "readTask", "()V"⟩ ⟨"CarHouse$Reader", "readTask", "()V"⟩ ∈ GT := gs_2 (q := (⟨"CarHouse$Reader", "readTask", "()V"⟩, 14)) (List.mem_of_getElem? (i := 0) rfl)
theorem sl_17 : Cond.selects "CarHouse$Reader" ⟨"CarHouse$Reader", "toldName", "(II)I"⟩ ⟨"CarHouse$Reader", "toldName", "(II)I"⟩ ∈ GT := gs_2 (q := (⟨"CarHouse$Reader", "toldName", "(II)I"⟩, 14)) (List.mem_of_getElem? (i := 1) rfl)
theorem sl_18 : Cond.selects "CarHouse$Reader" ⟨"CarHouse$Reader", "fetchWord", "()Z"⟩ ⟨"CarHouse$Reader", "fetchWord", "()Z"⟩ ∈ GT := gs_2 (q := (⟨"CarHouse$Reader", "fetchWord", "()Z"⟩, 14)) (List.mem_of_getElem? (i := 2) rfl)
theorem sl_19 : Cond.selects "CarHouse$Reader" ⟨"CarHouse$Reader", "number", "(II)I"⟩ ⟨"CarHouse$Reader", "number", "(II)I"⟩ ∈ GT := gs_2 (q := (⟨"CarHouse$Reader", "number", "(II)I"⟩, 14)) (List.mem_of_getElem? (i := 3) rfl)
theorem sl_20 : Cond.selects "CarHouse$Reader" ⟨"CarHouse$Reader", "boundedNumber", "(II)I"⟩ ⟨"CarHouse$Reader", "boundedNumber", "(II)I"⟩ ∈ GT := gs_2 (q := (⟨"CarHouse$Reader", "boundedNumber", "(II)I"⟩, 14)) (List.mem_of_getElem? (i := 4) rfl)
theorem sl_21 : Cond.selects "CarHouse$Reader" ⟨"CarHouse$Reader", "isNumber", "()Z"⟩ ⟨"CarHouse$Reader", "isNumber", "()Z"⟩ ∈ GT := gs_2 (q := (⟨"CarHouse$Reader", "isNumber", "()Z"⟩, 14)) (List.mem_of_getElem? (i := 5) rfl)
theorem sl_22 : Cond.selects "CarHouse$Reader" ⟨"CarHouse$Reader", "numberAtHand", "()I"⟩ ⟨"CarHouse$Reader", "numberAtHand", "()I"⟩ ∈ GT := gs_2 (q := (⟨"CarHouse$Reader", "numberAtHand", "()I"⟩, 14)) (List.mem_of_getElem? (i := 6) rfl)
theorem sl_23 : Cond.selects "CarHouse$Reader" ⟨"CarHouse$Reader", "readChart", "()V"⟩ ⟨"CarHouse$Reader", "readChart", "()V"⟩ ∈ GT := gs_2 (q := (⟨"CarHouse$Reader", "readChart", "()V"⟩, 14)) (List.mem_of_getElem? (i := 7) rfl)
theorem sl_24 : Cond.selects "CarHouse$Chart" ⟨"CarHouse$Chart", "clearState", "(I)V"⟩ ⟨"CarHouse$Chart", "clearState", "(I)V"⟩ ∈ GT := gs_2 (q := (⟨"CarHouse$Chart", "clearState", "(I)V"⟩, 17)) (List.mem_of_getElem? (i := 8) rfl)
theorem sl_25 : Cond.selects "CarHouse$Reader" ⟨"CarHouse$Reader", "readState", "()V"⟩ ⟨"CarHouse$Reader", "readState", "()V"⟩ ∈ GT := gs_2 (q := (⟨"CarHouse$Reader", "readState", "()V"⟩, 14)) (List.mem_of_getElem? (i := 9) rfl)
theorem sl_26 : Cond.selects "CarHouse$Reader" ⟨"CarHouse$Reader", "parentState", "(I)I"⟩ ⟨"CarHouse$Reader", "parentState", "(I)I"⟩ ∈ GT := gs_2 (q := (⟨"CarHouse$Reader", "parentState", "(I)I"⟩, 14)) (List.mem_of_getElem? (i := 10) rfl)
theorem sl_27 : Cond.selects "CarHouse$Reader" ⟨"CarHouse$Reader", "oneOf", "(Ljava/lang/String;)I"⟩ ⟨"CarHouse$Reader", "oneOf", "(Ljava/lang/String;)I"⟩ ∈ GT := gs_2 (q := (⟨"CarHouse$Reader", "oneOf", "(Ljava/lang/String;)I"⟩, 14)) (List.mem_of_getElem? (i := 11) rfl)
theorem sl_28 : Cond.selects "CarHouse$Chart" ⟨"CarHouse$Chart", "isMark", "(I)Z"⟩ ⟨"CarHouse$Chart", "isMark", "(I)Z"⟩ ∈ GT := gs_2 (q := (⟨"CarHouse$Chart", "isMark", "(I)Z"⟩, 17)) (List.mem_of_getElem? (i := 12) rfl)
theorem sl_29 : Cond.selects "CarHouse$Chart" ⟨"CarHouse$Chart", "putInOrder", "(II)V"⟩ ⟨"CarHouse$Chart", "putInOrder", "(II)V"⟩ ∈ GT := gs_2 (q := (⟨"CarHouse$Chart", "putInOrder", "(II)V"⟩, 17)) (List.mem_of_getElem? (i := 13) rfl)
theorem sl_30 : Cond.selects "CarHouse$Reader" ⟨"CarHouse$Reader", "heed", "(I)V"⟩ ⟨"CarHouse$Reader", "heed", "(I)V"⟩ ∈ GT := gs_2 (q := (⟨"CarHouse$Reader", "heed", "(I)V"⟩, 14)) (List.mem_of_getElem? (i := 14) rfl)
theorem sl_31 : Cond.selects "CarHouse$Reader" ⟨"CarHouse$Reader", "readEdge", "()V"⟩ ⟨"CarHouse$Reader", "readEdge", "()V"⟩ ∈ GT := gs_2 (q := (⟨"CarHouse$Reader", "readEdge", "()V"⟩, 14)) (List.mem_of_getElem? (i := 15) rfl)
theorem sl_32 : Cond.selects "CarHouse$Reader" ⟨"CarHouse$Reader", "eventOrTime", "(I)I"⟩ ⟨"CarHouse$Reader", "eventOrTime", "(I)I"⟩ ∈ GT := gs_3 (q := (⟨"CarHouse$Reader", "eventOrTime", "(I)I"⟩, 14)) (List.mem_of_getElem? (i := 0) rfl)
theorem sl_33 : Cond.selects "CarHouse$Reader" ⟨"CarHouse$Reader", "optional", "(Ljava/lang/String;)Z"⟩ ⟨"CarHouse$Reader", "optional", "(Ljava/lang/String;)Z"⟩ ∈ GT := gs_3 (q := (⟨"CarHouse$Reader", "optional", "(Ljava/lang/String;)Z"⟩, 14)) (List.mem_of_getElem? (i := 1) rfl)
theorem sl_34 : Cond.selects "CarHouse$Reader" ⟨"CarHouse$Reader", "otherOperand", "(I)I"⟩ ⟨"CarHouse$Reader", "otherOperand", "(I)I"⟩ ∈ GT := gs_3 (q := (⟨"CarHouse$Reader", "otherOperand", "(I)I"⟩, 14)) (List.mem_of_getElem? (i := 2) rfl)
theorem sl_35 : Cond.selects "CarHouse$Reader" ⟨"CarHouse$Reader", "readAfter", "()V"⟩ ⟨"CarHouse$Reader", "readAfter", "()V"⟩ ∈ GT := gs_3 (q := (⟨"CarHouse$Reader", "readAfter", "()V"⟩, 14)) (List.mem_of_getElem? (i := 3) rfl)
theorem sl_36 : Cond.selects "CarHouse$Reader" ⟨"CarHouse$Reader", "readDatum", "()V"⟩ ⟨"CarHouse$Reader", "readDatum", "()V"⟩ ∈ GT := gs_3 (q := (⟨"CarHouse$Reader", "readDatum", "()V"⟩, 14)) (List.mem_of_getElem? (i := 4) rfl)
theorem sl_37 : Cond.selects "CarHouse$Reader" ⟨"CarHouse$Reader", "readAct", "(I)V"⟩ ⟨"CarHouse$Reader", "readAct", "(I)V"⟩ ∈ GT := gs_3 (q := (⟨"CarHouse$Reader", "readAct", "(I)V"⟩, 14)) (List.mem_of_getElem? (i := 5) rfl)
theorem sl_38 : Cond.selects "CarHouse$Reader" ⟨"CarHouse$Reader", "readSignal", "()V"⟩ ⟨"CarHouse$Reader", "readSignal", "()V"⟩ ∈ GT := gs_3 (q := (⟨"CarHouse$Reader", "readSignal", "()V"⟩, 14)) (List.mem_of_getElem? (i := 6) rfl)
theorem sl_39 : Cond.selects "CarHouse$Reader" ⟨"CarHouse$Reader", "readProtect", "()V"⟩ ⟨"CarHouse$Reader", "readProtect", "()V"⟩ ∈ GT := gs_3 (q := (⟨"CarHouse$Reader", "readProtect", "()V"⟩, 14)) (List.mem_of_getElem? (i := 7) rfl)
theorem sl_40 : Cond.selects "CarHouse$Reader" ⟨"CarHouse$Reader", "readRead", "()V"⟩ ⟨"CarHouse$Reader", "readRead", "()V"⟩ ∈ GT := gs_3 (q := (⟨"CarHouse$Reader", "readRead", "()V"⟩, 14)) (List.mem_of_getElem? (i := 8) rfl)
theorem sl_41 : Cond.selects "CarHouse$Reader" ⟨"CarHouse$Reader", "refuseOwn", "(II)V"⟩ ⟨"CarHouse$Reader", "refuseOwn", "(II)V"⟩ ∈ GT := gs_3 (q := (⟨"CarHouse$Reader", "refuseOwn", "(II)V"⟩, 14)) (List.mem_of_getElem? (i := 9) rfl)
theorem sl_42 : Cond.selects "CarHouse$Reader" ⟨"CarHouse$Reader", "readWatch", "()V"⟩ ⟨"CarHouse$Reader", "readWatch", "()V"⟩ ∈ GT := gs_3 (q := (⟨"CarHouse$Reader", "readWatch", "()V"⟩, 14)) (List.mem_of_getElem? (i := 10) rfl)
theorem sl_43 : Cond.selects "CarHouse$Troubles" ⟨"CarHouse$Troubles", "forget", "(I)V"⟩ ⟨"CarHouse$Troubles", "forget", "(I)V"⟩ ∈ GT := gs_3 (q := (⟨"CarHouse$Troubles", "forget", "(I)V"⟩, 6)) (List.mem_of_getElem? (i := 11) rfl)
theorem sl_44 : Cond.selects "CarHouse$Reader" ⟨"CarHouse$Reader", "judgeWhole", "()V"⟩ ⟨"CarHouse$Reader", "judgeWhole", "()V"⟩ ∈ GT := gs_3 (q := (⟨"CarHouse$Reader", "judgeWhole", "()V"⟩, 14)) (List.mem_of_getElem? (i := 12) rfl)
theorem sl_45 : Cond.selects "CarHouse$Frames" ⟨"CarHouse$Frames", "octetsOf", "(I)I"⟩ ⟨"CarHouse$Frames", "octetsOf", "(I)I"⟩ ∈ GT := gs_3 (q := (⟨"CarHouse$Frames", "octetsOf", "(I)I"⟩, 15)) (List.mem_of_getElem? (i := 13) rfl)
theorem sl_46 : Cond.selects "CarHouse$Frames" ⟨"CarHouse$Frames", "packOf", "(IZ)V"⟩ ⟨"CarHouse$Frames", "packOf", "(IZ)V"⟩ ∈ GT := gs_3 (q := (⟨"CarHouse$Frames", "packOf", "(IZ)V"⟩, 15)) (List.mem_of_getElem? (i := 14) rfl)
theorem sl_47 : Cond.selects "CarHouse$Frames" ⟨"CarHouse$Frames", "nextPeriod", "(IZI)I"⟩ ⟨"CarHouse$Frames", "nextPeriod", "(IZI)I"⟩ ∈ GT := gs_3 (q := (⟨"CarHouse$Frames", "nextPeriod", "(IZI)I"⟩, 15)) (List.mem_of_getElem? (i := 15) rfl)
theorem sl_48 : Cond.selects "CarHouse$Frames" ⟨"CarHouse$Frames", "isOf", "(IIZ)Z"⟩ ⟨"CarHouse$Frames", "isOf", "(IIZ)Z"⟩ ∈ GT := gs_4 (q := (⟨"CarHouse$Frames", "isOf", "(IIZ)Z"⟩, 15)) (List.mem_of_getElem? (i := 0) rfl)
theorem sl_49 : Cond.selects "CarHouse$Frames" ⟨"CarHouse$Frames", "collectGroups", "(IZI)V"⟩ ⟨"CarHouse$Frames", "collectGroups", "(IZI)V"⟩ ∈ GT := gs_4 (q := (⟨"CarHouse$Frames", "collectGroups", "(IZI)V"⟩, 15)) (List.mem_of_getElem? (i := 1) rfl)
theorem sl_50 : Cond.selects "CarHouse$Frames" ⟨"CarHouse$Frames", "packGroups", "(I)V"⟩ ⟨"CarHouse$Frames", "packGroups", "(I)V"⟩ ∈ GT := gs_4 (q := (⟨"CarHouse$Frames", "packGroups", "(I)V"⟩, 15)) (List.mem_of_getElem? (i := 2) rfl)
theorem sl_51 : Cond.selects "CarHouse$Frames" ⟨"CarHouse$Frames", "packBest", "(I)I"⟩ ⟨"CarHouse$Frames", "packBest", "(I)I"⟩ ∈ GT := gs_4 (q := (⟨"CarHouse$Frames", "packBest", "(I)I"⟩, 15)) (List.mem_of_getElem? (i := 3) rfl)
theorem sl_52 : Cond.selects "CarHouse$Frames" ⟨"CarHouse$Frames", "fits", "(IIII)Z"⟩ ⟨"CarHouse$Frames", "fits", "(IIII)Z"⟩ ∈ GT := gs_4 (q := (⟨"CarHouse$Frames", "fits", "(IIII)Z"⟩, 15)) (List.mem_of_getElem? (i := 4) rfl)
theorem sl_53 : Cond.selects "CarHouse$Frames" ⟨"CarHouse$Frames", "emptyFrames", "()V"⟩ ⟨"CarHouse$Frames", "emptyFrames", "()V"⟩ ∈ GT := gs_4 (q := (⟨"CarHouse$Frames", "emptyFrames", "()V"⟩, 15)) (List.mem_of_getElem? (i := 5) rfl)
theorem sl_54 : Cond.selects "CarHouse$Frames" ⟨"CarHouse$Frames", "packFirstFit", "(I)I"⟩ ⟨"CarHouse$Frames", "packFirstFit", "(I)I"⟩ ∈ GT := gs_4 (q := (⟨"CarHouse$Frames", "packFirstFit", "(I)I"⟩, 15)) (List.mem_of_getElem? (i := 6) rfl)
theorem sl_55 : Cond.selects "CarHouse$Frames" ⟨"CarHouse$Frames", "placeGroups", "(I)V"⟩ ⟨"CarHouse$Frames", "placeGroups", "(I)V"⟩ ∈ GT := gs_4 (q := (⟨"CarHouse$Frames", "placeGroups", "(I)V"⟩, 15)) (List.mem_of_getElem? (i := 7) rfl)
theorem sl_56 : Cond.selects "CarHouse$Frames" ⟨"CarHouse$Frames", "openFrame", "(I)V"⟩ ⟨"CarHouse$Frames", "openFrame", "(I)V"⟩ ∈ GT := gs_4 (q := (⟨"CarHouse$Frames", "openFrame", "(I)V"⟩, 15)) (List.mem_of_getElem? (i := 8) rfl)
theorem sl_57 : Cond.selects "CarHouse$Frames" ⟨"CarHouse$Frames", "findPositions", "()V"⟩ ⟨"CarHouse$Frames", "findPositions", "()V"⟩ ∈ GT := gs_4 (q := (⟨"CarHouse$Frames", "findPositions", "()V"⟩, 15)) (List.mem_of_getElem? (i := 9) rfl)
theorem sl_58 : Cond.selects "CarHouse$Codes" ⟨"CarHouse$Codes", "spreadKey", "(I)V"⟩ ⟨"CarHouse$Codes", "spreadKey", "(I)V"⟩ ∈ GT := gs_4 (q := (⟨"CarHouse$Codes", "spreadKey", "(I)V"⟩, 7)) (List.mem_of_getElem? (i := 10) rfl)
theorem sl_59 : Cond.selects "CarHouse$Codes" ⟨"CarHouse$Codes", "makeSecond", "(I)V"⟩ ⟨"CarHouse$Codes", "makeSecond", "(I)V"⟩ ∈ GT := gs_4 (q := (⟨"CarHouse$Codes", "makeSecond", "(I)V"⟩, 7)) (List.mem_of_getElem? (i := 11) rfl)
theorem sl_60 : Cond.selects "CarHouse$Codes" ⟨"CarHouse$Codes", "encrypt", "(I)V"⟩ ⟨"CarHouse$Codes", "encrypt", "(I)V"⟩ ∈ GT := gs_4 (q := (⟨"CarHouse$Codes", "encrypt", "(I)V"⟩, 7)) (List.mem_of_getElem? (i := 12) rfl)
theorem sl_61 : Cond.selects "CarHouse$Chart" ⟨"CarHouse$Chart", "firstInto", "(I)I"⟩ ⟨"CarHouse$Chart", "firstInto", "(I)I"⟩ ∈ GT := gs_4 (q := (⟨"CarHouse$Chart", "firstInto", "(I)I"⟩, 17)) (List.mem_of_getElem? (i := 13) rfl)
theorem sl_62 : Cond.selects "CarHouse$Chart" ⟨"CarHouse$Chart", "isAround", "(II)Z"⟩ ⟨"CarHouse$Chart", "isAround", "(II)Z"⟩ ∈ GT := gs_4 (q := (⟨"CarHouse$Chart", "isAround", "(II)Z"⟩, 17)) (List.mem_of_getElem? (i := 14) rfl)
theorem sl_63 : Cond.selects "CarHouse$Chart" ⟨"CarHouse$Chart", "isIn", "(II)Z"⟩ ⟨"CarHouse$Chart", "isIn", "(II)Z"⟩ ∈ GT := gs_4 (q := (⟨"CarHouse$Chart", "isIn", "(II)Z"⟩, 17)) (List.mem_of_getElem? (i := 15) rfl)
theorem sl_64 : Cond.selects "CarHouse$Chart" ⟨"CarHouse$Chart", "isAim", "(I)Z"⟩ ⟨"CarHouse$Chart", "isAim", "(I)Z"⟩ ∈ GT := gs_5 (q := (⟨"CarHouse$Chart", "isAim", "(I)Z"⟩, 17)) (List.mem_of_getElem? (i := 0) rfl)
theorem sl_65 : Cond.selects "CarHouse$Car" ⟨"CarHouse$Car", "sendFrames", "(I)V"⟩ ⟨"CarHouse$Car", "sendFrames", "(I)V"⟩ ∈ GT := gs_5 (q := (⟨"CarHouse$Car", "sendFrames", "(I)V"⟩, 19)) (List.mem_of_getElem? (i := 1) rfl)
theorem sl_66 : Cond.selects "CarHouse$Car" ⟨"CarHouse$Car", "sendFrame", "(I)V"⟩ ⟨"CarHouse$Car", "sendFrame", "(I)V"⟩ ∈ GT := gs_5 (q := (⟨"CarHouse$Car", "sendFrame", "(I)V"⟩, 19)) (List.mem_of_getElem? (i := 2) rfl)
theorem sl_67 : Cond.selects "CarHouse$Frames" ⟨"CarHouse$Frames", "cutTo", "(IJ)J"⟩ ⟨"CarHouse$Frames", "cutTo", "(IJ)J"⟩ ∈ GT := gs_5 (q := (⟨"CarHouse$Frames", "cutTo", "(IJ)J"⟩, 15)) (List.mem_of_getElem? (i := 3) rfl)
theorem sl_68 : Cond.selects "CarHouse$Frames" ⟨"CarHouse$Frames", "placeOf", "(II)I"⟩ ⟨"CarHouse$Frames", "placeOf", "(II)I"⟩ ∈ GT := gs_5 (q := (⟨"CarHouse$Frames", "placeOf", "(II)I"⟩, 15)) (List.mem_of_getElem? (i := 4) rfl)
theorem sl_69 : Cond.selects "CarHouse$Frames" ⟨"CarHouse$Frames", "makeCode", "(II[ILCarHouse$Codes;)V"⟩ ⟨"CarHouse$Frames", "makeCode", "(II[ILCarHouse$Codes;)V"⟩ ∈ GT := gs_5 (q := (⟨"CarHouse$Frames", "makeCode", "(II[ILCarHouse$Codes;)V"⟩, 15)) (List.mem_of_getElem? (i := 5) rfl)
theorem sl_70 : Cond.selects "CarHouse$Bus" ⟨"CarHouse$Bus", "putOf", "(I)I"⟩ ⟨"CarHouse$Bus", "putOf", "(I)I"⟩ ∈ GT := gs_5 (q := (⟨"CarHouse$Bus", "putOf", "(I)I"⟩, 14)) (List.mem_of_getElem? (i := 6) rfl)
theorem sl_71 : Cond.selects "CarHouse$Bus" ⟨"CarHouse$Bus", "beginSending", "(I)V"⟩ ⟨"CarHouse$Bus", "beginSending", "(I)V"⟩ ∈ GT := gs_5 (q := (⟨"CarHouse$Bus", "beginSending", "(I)V"⟩, 14)) (List.mem_of_getElem? (i := 7) rfl)
theorem sl_72 : Cond.selects "CarHouse$Bus" ⟨"CarHouse$Bus", "isBefore", "(II)Z"⟩ ⟨"CarHouse$Bus", "isBefore", "(II)Z"⟩ ∈ GT := gs_5 (q := (⟨"CarHouse$Bus", "isBefore", "(II)Z"⟩, 14)) (List.mem_of_getElem? (i := 8) rfl)
theorem sl_73 : Cond.selects "CarHouse$Bus" ⟨"CarHouse$Bus", "layOut", "(II)V"⟩ ⟨"CarHouse$Bus", "layOut", "(II)V"⟩ ∈ GT := gs_5 (q := (⟨"CarHouse$Bus", "layOut", "(II)V"⟩, 14)) (List.mem_of_getElem? (i := 9) rfl)
theorem sl_74 : Cond.selects "CarHouse$Bus" ⟨"CarHouse$Bus", "plainBit", "(II)I"⟩ ⟨"CarHouse$Bus", "plainBit", "(II)I"⟩ ∈ GT := gs_5 (q := (⟨"CarHouse$Bus", "plainBit", "(II)I"⟩, 14)) (List.mem_of_getElem? (i := 10) rfl)
theorem sl_75 : Cond.selects "CarHouse$Ear" ⟨"CarHouse$Ear", "isCheckRight", "()Z"⟩ ⟨"CarHouse$Ear", "isCheckRight", "()Z"⟩ ∈ GT := gs_5 (q := (⟨"CarHouse$Ear", "isCheckRight", "()Z"⟩, 20)) (List.mem_of_getElem? (i := 11) rfl)
theorem sl_76 : Cond.selects "CarHouse$Bus" ⟨"CarHouse$Bus", "see", "(III)V"⟩ ⟨"CarHouse$Bus", "see", "(III)V"⟩ ∈ GT := gs_5 (q := (⟨"CarHouse$Bus", "see", "(III)V"⟩, 14)) (List.mem_of_getElem? (i := 12) rfl)
theorem sl_77 : Cond.selects "CarHouse$Bus" ⟨"CarHouse$Bus", "beginListening", "(I)V"⟩ ⟨"CarHouse$Bus", "beginListening", "(I)V"⟩ ∈ GT := gs_5 (q := (⟨"CarHouse$Bus", "beginListening", "(I)V"⟩, 14)) (List.mem_of_getElem? (i := 13) rfl)
theorem sl_78 : Cond.selects "CarHouse$Bus" ⟨"CarHouse$Bus", "isLosing", "(II)Z"⟩ ⟨"CarHouse$Bus", "isLosing", "(II)Z"⟩ ∈ GT := gs_5 (q := (⟨"CarHouse$Bus", "isLosing", "(II)Z"⟩, 14)) (List.mem_of_getElem? (i := 14) rfl)
theorem sl_79 : Cond.selects "CarHouse$Bus" ⟨"CarHouse$Bus", "loseArbitration", "(I)V"⟩ ⟨"CarHouse$Bus", "loseArbitration", "(I)V"⟩ ∈ GT := gs_5 (q := (⟨"CarHouse$Bus", "loseArbitration", "(I)V"⟩, 14)) (List.mem_of_getElem? (i := 15) rfl)
theorem sl_80 : Cond.selects "CarHouse$Ear" ⟨"CarHouse$Ear", "hearFixed", "(I)I"⟩ ⟨"CarHouse$Ear", "hearFixed", "(I)I"⟩ ∈ GT := gs_6 (q := (⟨"CarHouse$Ear", "hearFixed", "(I)I"⟩, 20)) (List.mem_of_getElem? (i := 0) rfl)
theorem sl_81 : Cond.selects "CarHouse$Ear" ⟨"CarHouse$Ear", "countOfStuffs", "()I"⟩ ⟨"CarHouse$Ear", "countOfStuffs", "()I"⟩ ∈ GT := gs_6 (q := (⟨"CarHouse$Ear", "countOfStuffs", "()I"⟩, 20)) (List.mem_of_getElem? (i := 1) rfl)
theorem sl_82 : Cond.selects "CarHouse$Ear" ⟨"CarHouse$Ear", "hearTail", "(I)I"⟩ ⟨"CarHouse$Ear", "hearTail", "(I)I"⟩ ∈ GT := gs_6 (q := (⟨"CarHouse$Ear", "hearTail", "(I)I"⟩, 20)) (List.mem_of_getElem? (i := 2) rfl)
theorem sl_83 : Cond.selects "CarHouse$Ear" ⟨"CarHouse$Ear", "hearStuffBit", "(I)I"⟩ ⟨"CarHouse$Ear", "hearStuffBit", "(I)I"⟩ ∈ GT := gs_6 (q := (⟨"CarHouse$Ear", "hearStuffBit", "(I)I"⟩, 20)) (List.mem_of_getElem? (i := 3) rfl)
theorem sl_84 : Cond.selects "CarHouse$Ear" ⟨"CarHouse$Ear", "stuffedEnd", "()I"⟩ ⟨"CarHouse$Ear", "stuffedEnd", "()I"⟩ ∈ GT := gs_6 (q := (⟨"CarHouse$Ear", "stuffedEnd", "()I"⟩, 20)) (List.mem_of_getElem? (i := 4) rfl)
theorem sl_85 : Cond.selects "CarHouse$Ear" ⟨"CarHouse$Ear", "hearPlain", "(II)V"⟩ ⟨"CarHouse$Ear", "hearPlain", "(II)V"⟩ ∈ GT := gs_6 (q := (⟨"CarHouse$Ear", "hearPlain", "(II)V"⟩, 20)) (List.mem_of_getElem? (i := 5) rfl)
theorem sl_86 : Cond.selects "CarHouse$Ear" ⟨"CarHouse$Ear", "hearHead", "(II)V"⟩ ⟨"CarHouse$Ear", "hearHead", "(II)V"⟩ ∈ GT := gs_6 (q := (⟨"CarHouse$Ear", "hearHead", "(II)V"⟩, 20)) (List.mem_of_getElem? (i := 6) rfl)
theorem sl_87 : Cond.selects "CarHouse$Ear" ⟨"CarHouse$Ear", "findEnds", "()V"⟩ ⟨"CarHouse$Ear", "findEnds", "()V"⟩ ∈ GT := gs_6 (q := (⟨"CarHouse$Ear", "findEnds", "()V"⟩, 20)) (List.mem_of_getElem? (i := 7) rfl)
theorem sl_88 : Cond.selects "CarHouse$Bus" ⟨"CarHouse$Bus", "seeSending", "(III)V"⟩ ⟨"CarHouse$Bus", "seeSending", "(III)V"⟩ ∈ GT := gs_6 (q := (⟨"CarHouse$Bus", "seeSending", "(III)V"⟩, 14)) (List.mem_of_getElem? (i := 8) rfl)
theorem sl_89 : Cond.selects "CarHouse$Bus" ⟨"CarHouse$Bus", "tellFault", "(III)V"⟩ ⟨"CarHouse$Bus", "tellFault", "(III)V"⟩ ∈ GT := gs_6 (q := (⟨"CarHouse$Bus", "tellFault", "(III)V"⟩, 14)) (List.mem_of_getElem? (i := 9) rfl)
theorem sl_90 : Cond.selects "CarHouse$Bus" ⟨"CarHouse$Bus", "become", "(III)V"⟩ ⟨"CarHouse$Bus", "become", "(III)V"⟩ ∈ GT := gs_6 (q := (⟨"CarHouse$Bus", "become", "(III)V"⟩, 14)) (List.mem_of_getElem? (i := 10) rfl)
theorem sl_91 : Cond.selects "CarHouse$Bus" ⟨"CarHouse$Bus", "endSending", "(I)V"⟩ ⟨"CarHouse$Bus", "endSending", "(I)V"⟩ ∈ GT := gs_6 (q := (⟨"CarHouse$Bus", "endSending", "(I)V"⟩, 14)) (List.mem_of_getElem? (i := 11) rfl)
theorem sl_92 : Cond.selects "CarHouse$Bus" ⟨"CarHouse$Bus", "seeListening", "(III)V"⟩ ⟨"CarHouse$Bus", "seeListening", "(III)V"⟩ ∈ GT := gs_6 (q := (⟨"CarHouse$Bus", "seeListening", "(III)V"⟩, 14)) (List.mem_of_getElem? (i := 12) rfl)
theorem sl_93 : Cond.selects "CarHouse$Bus" ⟨"CarHouse$Bus", "seeClearing", "(III)V"⟩ ⟨"CarHouse$Bus", "seeClearing", "(III)V"⟩ ∈ GT := gs_6 (q := (⟨"CarHouse$Bus", "seeClearing", "(III)V"⟩, 14)) (List.mem_of_getElem? (i := 13) rfl)
theorem sl_94 : Cond.selects "CarHouse$Bus" ⟨"CarHouse$Bus", "seePausing", "(III)V"⟩ ⟨"CarHouse$Bus", "seePausing", "(III)V"⟩ ∈ GT := gs_6 (q := (⟨"CarHouse$Bus", "seePausing", "(III)V"⟩, 14)) (List.mem_of_getElem? (i := 14) rfl)
theorem sl_95 : Cond.selects "CarHouse$Cores" ⟨"CarHouse$Cores", "activateAll", "(I)V"⟩ ⟨"CarHouse$Cores", "activateAll", "(I)V"⟩ ∈ GT := gs_6 (q := (⟨"CarHouse$Cores", "activateAll", "(I)V"⟩, 7)) (List.mem_of_getElem? (i := 15) rfl)
theorem sl_96 : Cond.selects "CarHouse$Cores" ⟨"CarHouse$Cores", "makeReady", "(I)V"⟩ ⟨"CarHouse$Cores", "makeReady", "(I)V"⟩ ∈ GT := gs_7 (q := (⟨"CarHouse$Cores", "makeReady", "(I)V"⟩, 7)) (List.mem_of_getElem? (i := 0) rfl)
theorem sl_97 : Cond.selects "CarHouse$Cores" ⟨"CarHouse$Cores", "settle", "(I)V"⟩ ⟨"CarHouse$Cores", "settle", "(I)V"⟩ ∈ GT := gs_7 (q := (⟨"CarHouse$Cores", "settle", "(I)V"⟩, 7)) (List.mem_of_getElem? (i := 1) rfl)
theorem sl_98 : Cond.selects "CarHouse$Cores" ⟨"CarHouse$Cores", "choose", "(I)V"⟩ ⟨"CarHouse$Cores", "choose", "(I)V"⟩ ∈ GT := gs_7 (q := (⟨"CarHouse$Cores", "choose", "(I)V"⟩, 7)) (List.mem_of_getElem? (i := 2) rfl)
theorem sl_99 : Cond.selects "CarHouse$Cores" ⟨"CarHouse$Cores", "isBefore", "(II)Z"⟩ ⟨"CarHouse$Cores", "isBefore", "(II)Z"⟩ ∈ GT := gs_7 (q := (⟨"CarHouse$Cores", "isBefore", "(II)Z"⟩, 7)) (List.mem_of_getElem? (i := 3) rfl)
theorem sl_100 : Cond.selects "CarHouse$Cores" ⟨"CarHouse$Cores", "use", "(I)V"⟩ ⟨"CarHouse$Cores", "use", "(I)V"⟩ ∈ GT := gs_7 (q := (⟨"CarHouse$Cores", "use", "(I)V"⟩, 7)) (List.mem_of_getElem? (i := 4) rfl)
theorem sl_101 : Cond.selects "CarHouse$Car" ⟨"CarHouse$Car", "takeFrames", "()V"⟩ ⟨"CarHouse$Car", "takeFrames", "()V"⟩ ∈ GT := gs_7 (q := (⟨"CarHouse$Car", "takeFrames", "()V"⟩, 19)) (List.mem_of_getElem? (i := 5) rfl)
theorem sl_102 : Cond.selects "CarHouse$Car" ⟨"CarHouse$Car", "takeOfTransfer", "(II)V"⟩ ⟨"CarHouse$Car", "takeOfTransfer", "(II)V"⟩ ∈ GT := gs_7 (q := (⟨"CarHouse$Car", "takeOfTransfer", "(II)V"⟩, 19)) (List.mem_of_getElem? (i := 6) rfl)
theorem sl_103 : Cond.selects "CarHouse$Transfer" ⟨"CarHouse$Transfer", "receive", "(I)I"⟩ ⟨"CarHouse$Transfer", "receive", "(I)I"⟩ ∈ GT := gs_7 (q := (⟨"CarHouse$Transfer", "receive", "(I)I"⟩, 11)) (List.mem_of_getElem? (i := 7) rfl)
theorem sl_104 : Cond.selects "CarHouse$Transfer" ⟨"CarHouse$Transfer", "receiveNext", "(II)I"⟩ ⟨"CarHouse$Transfer", "receiveNext", "(II)I"⟩ ∈ GT := gs_7 (q := (⟨"CarHouse$Transfer", "receiveNext", "(II)I"⟩, 11)) (List.mem_of_getElem? (i := 8) rfl)
theorem sl_105 : Cond.selects "CarHouse$Transfer" ⟨"CarHouse$Transfer", "makeFrame", "(III)V"⟩ ⟨"CarHouse$Transfer", "makeFrame", "(III)V"⟩ ∈ GT := gs_7 (q := (⟨"CarHouse$Transfer", "makeFrame", "(III)V"⟩, 11)) (List.mem_of_getElem? (i := 9) rfl)
theorem sl_106 : Cond.selects "CarHouse$Questions" ⟨"CarHouse$Questions", "refuse", "(II)V"⟩ ⟨"CarHouse$Questions", "refuse", "(II)V"⟩ ∈ GT := gs_7 (q := (⟨"CarHouse$Questions", "refuse", "(II)V"⟩, 9)) (List.mem_of_getElem? (i := 10) rfl)
theorem sl_107 : Cond.selects "CarHouse$Questions" ⟨"CarHouse$Questions", "put", "(I)V"⟩ ⟨"CarHouse$Questions", "put", "(I)V"⟩ ∈ GT := gs_7 (q := (⟨"CarHouse$Questions", "put", "(I)V"⟩, 9)) (List.mem_of_getElem? (i := 11) rfl)
theorem sl_108 : Cond.selects "CarHouse$Questions" ⟨"CarHouse$Questions", "openSession", "(II)V"⟩ ⟨"CarHouse$Questions", "openSession", "(II)V"⟩ ∈ GT := gs_7 (q := (⟨"CarHouse$Questions", "openSession", "(II)V"⟩, 9)) (List.mem_of_getElem? (i := 12) rfl)
theorem sl_109 : Cond.selects "CarHouse$Questions" ⟨"CarHouse$Questions", "readDatum", "([LCarHouse$Chart;III)V"⟩ ⟨"CarHouse$Questions", "readDatum", "([LCarHouse$Chart;III)V"⟩ ∈ GT := gs_7 (q := (⟨"CarHouse$Questions", "readDatum", "([LCarHouse$Chart;III)V"⟩, 9)) (List.mem_of_getElem? (i := 13) rfl)
theorem sl_110 : Cond.selects "CarHouse$Questions" ⟨"CarHouse$Questions", "writeDatum", "([LCarHouse$Chart;I[I)V"⟩ ⟨"CarHouse$Questions", "writeDatum", "([LCarHouse$Chart;I[I)V"⟩ ∈ GT := gs_7 (q := (⟨"CarHouse$Questions", "writeDatum", "([LCarHouse$Chart;I[I)V"⟩, 9)) (List.mem_of_getElem? (i := 14) rfl)
theorem sl_111 : Cond.selects "CarHouse$Questions" ⟨"CarHouse$Questions", "listTroubles", "(LCarHouse$Troubles;)V"⟩ ⟨"CarHouse$Questions", "listTroubles", "(LCarHouse$Troubles;)V"⟩ ∈ GT := gs_7 (q := (⟨"CarHouse$Questions", "listTroubles", "(LCarHouse$Troubles;)V"⟩, 9)) (List.mem_of_getElem? (i := 15) rfl)
theorem sl_112 : Cond.selects "CarHouse$Questions" ⟨"CarHouse$Questions", "openSeed", "(I)V"⟩ ⟨"CarHouse$Questions", "openSeed", "(I)V"⟩ ∈ GT := gs_8 (q := (⟨"CarHouse$Questions", "openSeed", "(I)V"⟩, 9)) (List.mem_of_getElem? (i := 0) rfl)
theorem sl_113 : Cond.selects "CarHouse$Questions" ⟨"CarHouse$Questions", "tryKey", "(LCarHouse$Codes;I[I)V"⟩ ⟨"CarHouse$Questions", "tryKey", "(LCarHouse$Codes;I[I)V"⟩ ∈ GT := gs_8 (q := (⟨"CarHouse$Questions", "tryKey", "(LCarHouse$Codes;I[I)V"⟩, 9)) (List.mem_of_getElem? (i := 1) rfl)
theorem sl_114 : Cond.selects "CarHouse$Car" ⟨"CarHouse$Car", "takeSignals", "(II[I)V"⟩ ⟨"CarHouse$Car", "takeSignals", "(II[I)V"⟩ ∈ GT := gs_8 (q := (⟨"CarHouse$Car", "takeSignals", "(II[I)V"⟩, 19)) (List.mem_of_getElem? (i := 2) rfl)
theorem sl_115 : Cond.selects "CarHouse$Car" ⟨"CarHouse$Car", "takeRead", "(IJ)V"⟩ ⟨"CarHouse$Car", "takeRead", "(IJ)V"⟩ ∈ GT := gs_8 (q := (⟨"CarHouse$Car", "takeRead", "(IJ)V"⟩, 19)) (List.mem_of_getElem? (i := 3) rfl)
theorem sl_116 : Cond.selects "CarHouse$Chart" ⟨"CarHouse$Chart", "happen", "(II)Z"⟩ ⟨"CarHouse$Chart", "happen", "(II)Z"⟩ ∈ GT := gs_8 (q := (⟨"CarHouse$Chart", "happen", "(II)Z"⟩, 17)) (List.mem_of_getElem? (i := 4) rfl)
theorem sl_117 : Cond.selects "CarHouse$Chart" ⟨"CarHouse$Chart", "aim", "(II)V"⟩ ⟨"CarHouse$Chart", "aim", "(II)V"⟩ ∈ GT := gs_8 (q := (⟨"CarHouse$Chart", "aim", "(II)V"⟩, 17)) (List.mem_of_getElem? (i := 5) rfl)
theorem sl_118 : Cond.selects "CarHouse$Chart" ⟨"CarHouse$Chart", "aimAt", "(II)V"⟩ ⟨"CarHouse$Chart", "aimAt", "(II)V"⟩ ∈ GT := gs_8 (q := (⟨"CarHouse$Chart", "aimAt", "(II)V"⟩, 17)) (List.mem_of_getElem? (i := 6) rfl)
theorem sl_119 : Cond.selects "CarHouse$Chart" ⟨"CarHouse$Chart", "enterAll", "(I)V"⟩ ⟨"CarHouse$Chart", "enterAll", "(I)V"⟩ ∈ GT := gs_8 (q := (⟨"CarHouse$Chart", "enterAll", "(I)V"⟩, 17)) (List.mem_of_getElem? (i := 7) rfl)
theorem sl_120 : Cond.selects "CarHouse$Chart" ⟨"CarHouse$Chart", "pickChild", "(I)V"⟩ ⟨"CarHouse$Chart", "pickChild", "(I)V"⟩ ∈ GT := gs_8 (q := (⟨"CarHouse$Chart", "pickChild", "(I)V"⟩, 17)) (List.mem_of_getElem? (i := 8) rfl)
theorem sl_121 : Cond.selects "CarHouse$Chart" ⟨"CarHouse$Chart", "doActs", "(II)V"⟩ ⟨"CarHouse$Chart", "doActs", "(II)V"⟩ ∈ GT := gs_8 (q := (⟨"CarHouse$Chart", "doActs", "(II)V"⟩, 17)) (List.mem_of_getElem? (i := 9) rfl)
theorem sl_122 : Cond.selects "CarHouse$Chart" ⟨"CarHouse$Chart", "chain", "()Z"⟩ ⟨"CarHouse$Chart", "chain", "()Z"⟩ ∈ GT := gs_8 (q := (⟨"CarHouse$Chart", "chain", "()Z"⟩, 17)) (List.mem_of_getElem? (i := 10) rfl)
theorem sl_123 : Cond.selects "CarHouse$Chart" ⟨"CarHouse$Chart", "select", "(I)I"⟩ ⟨"CarHouse$Chart", "select", "(I)I"⟩ ∈ GT := gs_8 (q := (⟨"CarHouse$Chart", "select", "(I)I"⟩, 17)) (List.mem_of_getElem? (i := 11) rfl)
theorem sl_124 : Cond.selects "CarHouse$Chart" ⟨"CarHouse$Chart", "mayGo", "(I)Z"⟩ ⟨"CarHouse$Chart", "mayGo", "(I)Z"⟩ ∈ GT := gs_8 (q := (⟨"CarHouse$Chart", "mayGo", "(I)Z"⟩, 17)) (List.mem_of_getElem? (i := 12) rfl)
theorem sl_125 : Cond.selects "CarHouse$Chart" ⟨"CarHouse$Chart", "isJoined", "(I)Z"⟩ ⟨"CarHouse$Chart", "isJoined", "(I)Z"⟩ ∈ GT := gs_8 (q := (⟨"CarHouse$Chart", "isJoined", "(I)Z"⟩, 17)) (List.mem_of_getElem? (i := 13) rfl)
theorem sl_126 : Cond.selects "CarHouse$Chart" ⟨"CarHouse$Chart", "holds", "(I)Z"⟩ ⟨"CarHouse$Chart", "holds", "(I)Z"⟩ ∈ GT := gs_8 (q := (⟨"CarHouse$Chart", "holds", "(I)Z"⟩, 17)) (List.mem_of_getElem? (i := 14) rfl)
theorem sl_127 : Cond.selects "CarHouse$Chart" ⟨"CarHouse$Chart", "compare", "(IJJ)Z"⟩ ⟨"CarHouse$Chart", "compare", "(IJJ)Z"⟩ ∈ GT := gs_8 (q := (⟨"CarHouse$Chart", "compare", "(IJJ)Z"⟩, 17)) (List.mem_of_getElem? (i := 15) rfl)
theorem sl_128 : Cond.selects "CarHouse$Chart" ⟨"CarHouse$Chart", "putReady", "(II)I"⟩ ⟨"CarHouse$Chart", "putReady", "(II)I"⟩ ∈ GT := gs_9 (q := (⟨"CarHouse$Chart", "putReady", "(II)I"⟩, 17)) (List.mem_of_getElem? (i := 0) rfl)
theorem sl_129 : Cond.selects "CarHouse$Chart" ⟨"CarHouse$Chart", "claim", "(I)Z"⟩ ⟨"CarHouse$Chart", "claim", "(I)Z"⟩ ∈ GT := gs_9 (q := (⟨"CarHouse$Chart", "claim", "(I)Z"⟩, 17)) (List.mem_of_getElem? (i := 1) rfl)
theorem sl_130 : Cond.selects "CarHouse$Chart" ⟨"CarHouse$Chart", "markInside", "(I)V"⟩ ⟨"CarHouse$Chart", "markInside", "(I)V"⟩ ∈ GT := gs_9 (q := (⟨"CarHouse$Chart", "markInside", "(I)V"⟩, 17)) (List.mem_of_getElem? (i := 2) rfl)
theorem sl_131 : Cond.selects "CarHouse$Chart" ⟨"CarHouse$Chart", "goOn", "(I)V"⟩ ⟨"CarHouse$Chart", "goOn", "(I)V"⟩ ∈ GT := gs_9 (q := (⟨"CarHouse$Chart", "goOn", "(I)V"⟩, 17)) (List.mem_of_getElem? (i := 3) rfl)
theorem sl_132 : Cond.selects "CarHouse$Chart" ⟨"CarHouse$Chart", "leaveAll", "(I)V"⟩ ⟨"CarHouse$Chart", "leaveAll", "(I)V"⟩ ∈ GT := gs_9 (q := (⟨"CarHouse$Chart", "leaveAll", "(I)V"⟩, 17)) (List.mem_of_getElem? (i := 4) rfl)
theorem sl_133 : Cond.selects "CarHouse$Chart" ⟨"CarHouse$Chart", "nextToSpeak", "(I)I"⟩ ⟨"CarHouse$Chart", "nextToSpeak", "(I)I"⟩ ∈ GT := gs_9 (q := (⟨"CarHouse$Chart", "nextToSpeak", "(I)I"⟩, 17)) (List.mem_of_getElem? (i := 5) rfl)
theorem sl_134 : Cond.selects "CarHouse$Troubles" ⟨"CarHouse$Troubles", "noteFailed", "(II)V"⟩ ⟨"CarHouse$Troubles", "noteFailed", "(II)V"⟩ ∈ GT := gs_9 (q := (⟨"CarHouse$Troubles", "noteFailed", "(II)V"⟩, 6)) (List.mem_of_getElem? (i := 6) rfl)
theorem sl_135 : Cond.selects "CarHouse$Troubles" ⟨"CarHouse$Troubles", "testFailed", "(I)V"⟩ ⟨"CarHouse$Troubles", "testFailed", "(I)V"⟩ ∈ GT := gs_9 (q := (⟨"CarHouse$Troubles", "testFailed", "(I)V"⟩, 6)) (List.mem_of_getElem? (i := 7) rfl)
theorem sl_136 : Cond.selects "CarHouse$Troubles" ⟨"CarHouse$Troubles", "store", "(I)V"⟩ ⟨"CarHouse$Troubles", "store", "(I)V"⟩ ∈ GT := gs_9 (q := (⟨"CarHouse$Troubles", "store", "(I)V"⟩, 6)) (List.mem_of_getElem? (i := 8) rfl)
theorem sl_137 : Cond.selects "CarHouse$Troubles" ⟨"CarHouse$Troubles", "entryOf", "(I)I"⟩ ⟨"CarHouse$Troubles", "entryOf", "(I)I"⟩ ∈ GT := gs_9 (q := (⟨"CarHouse$Troubles", "entryOf", "(I)I"⟩, 6)) (List.mem_of_getElem? (i := 9) rfl)
theorem sl_138 : Cond.selects "CarHouse$Troubles" ⟨"CarHouse$Troubles", "findLesser", "(I)I"⟩ ⟨"CarHouse$Troubles", "findLesser", "(I)I"⟩ ∈ GT := gs_9 (q := (⟨"CarHouse$Troubles", "findLesser", "(I)I"⟩, 6)) (List.mem_of_getElem? (i := 10) rfl)
theorem sl_139 : Cond.selects "CarHouse$Troubles" ⟨"CarHouse$Troubles", "weightOf", "(I)I"⟩ ⟨"CarHouse$Troubles", "weightOf", "(I)I"⟩ ∈ GT := gs_9 (q := (⟨"CarHouse$Troubles", "weightOf", "(I)I"⟩, 6)) (List.mem_of_getElem? (i := 11) rfl)
theorem sl_140 : Cond.selects "CarHouse$Troubles" ⟨"CarHouse$Troubles", "removeEntry", "(I)V"⟩ ⟨"CarHouse$Troubles", "removeEntry", "(I)V"⟩ ∈ GT := gs_9 (q := (⟨"CarHouse$Troubles", "removeEntry", "(I)V"⟩, 6)) (List.mem_of_getElem? (i := 12) rfl)
theorem sl_141 : Cond.selects "CarHouse$Car" ⟨"CarHouse$Car", "passTransfer", "()V"⟩ ⟨"CarHouse$Car", "passTransfer", "()V"⟩ ∈ GT := gs_9 (q := (⟨"CarHouse$Car", "passTransfer", "()V"⟩, 19)) (List.mem_of_getElem? (i := 13) rfl)
theorem sl_142 : Cond.selects "CarHouse$Transfer" ⟨"CarHouse$Transfer", "begin", "(I)V"⟩ ⟨"CarHouse$Transfer", "begin", "(I)V"⟩ ∈ GT := gs_9 (q := (⟨"CarHouse$Transfer", "begin", "(I)V"⟩, 11)) (List.mem_of_getElem? (i := 14) rfl)
theorem sl_143 : Cond.selects "CarHouse$Transfer" ⟨"CarHouse$Transfer", "goOn", "(II)V"⟩ ⟨"CarHouse$Transfer", "goOn", "(II)V"⟩ ∈ GT := gs_9 (q := (⟨"CarHouse$Transfer", "goOn", "(II)V"⟩, 11)) (List.mem_of_getElem? (i := 15) rfl)
theorem sl_144 : Cond.selects "CarHouse$Car" ⟨"CarHouse$Car", "putOnBus", "(I)V"⟩ ⟨"CarHouse$Car", "putOnBus", "(I)V"⟩ ∈ GT := gs_10 (q := (⟨"CarHouse$Car", "putOnBus", "(I)V"⟩, 19)) (List.mem_of_getElem? (i := 0) rfl)
theorem sl_145 : Cond.selects "CarHouse" ⟨"CarHouse", "hasChart", "(I)Z"⟩ ⟨"CarHouse", "hasChart", "(I)Z"⟩ ∈ GT := gs_10 (q := (⟨"CarHouse", "hasChart", "(I)Z"⟩, 6)) (List.mem_of_getElem? (i := 1) rfl)
theorem sl_146 : Cond.selects "CarHouse$Troubles" ⟨"CarHouse$Troubles", "endGoodCycle", "(IZ)V"⟩ ⟨"CarHouse$Troubles", "endGoodCycle", "(IZ)V"⟩ ∈ GT := gs_10 (q := (⟨"CarHouse$Troubles", "endGoodCycle", "(IZ)V"⟩, 6)) (List.mem_of_getElem? (i := 2) rfl)
theorem sl_147 : Cond.selects "CarHouseModel$Codes" ⟨"CarHouseModel$Codes", "noKey", "(I)Z"⟩ ⟨"CarHouseModel$Codes", "noKey", "(I)Z"⟩ ∈ GT := gs_10 (q := (⟨"CarHouseModel$Codes", "noKey", "(I)Z"⟩, 19)) (List.mem_of_getElem? (i := 3) rfl)
theorem sl_148 : Cond.selects "CarHouseModel" ⟨"CarHouseModel", "read", "()Z"⟩ ⟨"CarHouseModel", "read", "()Z"⟩ ∈ GT := gs_10 (q := (⟨"CarHouseModel", "read", "()Z"⟩, 112)) (List.mem_of_getElem? (i := 4) rfl)
theorem sl_149 : Cond.selects "CarHouseModel" ⟨"CarHouseModel", "next", "()Z"⟩ ⟨"CarHouseModel", "next", "()Z"⟩ ∈ GT := gs_10 (q := (⟨"CarHouseModel", "next", "()Z"⟩, 112)) (List.mem_of_getElem? (i := 5) rfl)
theorem sl_150 : Cond.selects "CarHouseModel" ⟨"CarHouseModel", "line", "()Z"⟩ ⟨"CarHouseModel", "line", "()Z"⟩ ∈ GT := gs_10 (q := (⟨"CarHouseModel", "line", "()Z"⟩, 112)) (List.mem_of_getElem? (i := 6) rfl)
theorem sl_151 : Cond.selects "CarHouseModel" ⟨"CarHouseModel", "is", "(JJ)Z"⟩ ⟨"CarHouseModel", "is", "(JJ)Z"⟩ ∈ GT := gs_10 (q := (⟨"CarHouseModel", "is", "(JJ)Z"⟩, 112)) (List.mem_of_getElem? (i := 7) rfl)
theorem sl_152 : Cond.selects "CarHouseModel" ⟨"CarHouseModel", "addController", "()Z"⟩ ⟨"CarHouseModel", "addController", "()Z"⟩ ∈ GT := gs_10 (q := (⟨"CarHouseModel", "addController", "()Z"⟩, 112)) (List.mem_of_getElem? (i := 8) rfl)
theorem sl_153 : Cond.selects "CarHouseModel" ⟨"CarHouseModel", "newName", "(II)Z"⟩ ⟨"CarHouseModel", "newName", "(II)Z"⟩ ∈ GT := gs_10 (q := (⟨"CarHouseModel", "newName", "(II)Z"⟩, 112)) (List.mem_of_getElem? (i := 9) rfl)
theorem sl_154 : Cond.selects "CarHouseModel" ⟨"CarHouseModel", "must", "()Z"⟩ ⟨"CarHouseModel", "must", "()Z"⟩ ∈ GT := gs_10 (q := (⟨"CarHouseModel", "must", "()Z"⟩, 112)) (List.mem_of_getElem? (i := 10) rfl)
theorem sl_155 : Cond.selects "CarHouseModel" ⟨"CarHouseModel", "fail", "(II)Z"⟩ ⟨"CarHouseModel", "fail", "(II)Z"⟩ ∈ GT := gs_10 (q := (⟨"CarHouseModel", "fail", "(II)Z"⟩, 112)) (List.mem_of_getElem? (i := 11) rfl)
theorem sl_156 : Cond.selects "CarHouseModel" ⟨"CarHouseModel", "isName", "()Z"⟩ ⟨"CarHouseModel", "isName", "()Z"⟩ ∈ GT := gs_10 (q := (⟨"CarHouseModel", "isName", "()Z"⟩, 112)) (List.mem_of_getElem? (i := 12) rfl)
theorem sl_157 : Cond.selects "CarHouseModel" ⟨"CarHouseModel", "findName", "()I"⟩ ⟨"CarHouseModel", "findName", "()I"⟩ ∈ GT := gs_10 (q := (⟨"CarHouseModel", "findName", "()I"⟩, 112)) (List.mem_of_getElem? (i := 13) rfl)
theorem sl_158 : Cond.selects "CarHouseModel" ⟨"CarHouseModel", "same", "(II)Z"⟩ ⟨"CarHouseModel", "same", "(II)Z"⟩ ∈ GT := gs_10 (q := (⟨"CarHouseModel", "same", "(II)Z"⟩, 112)) (List.mem_of_getElem? (i := 14) rfl)
theorem sl_159 : Cond.selects "CarHouseModel" ⟨"CarHouseModel", "end", "()Z"⟩ ⟨"CarHouseModel", "end", "()Z"⟩ ∈ GT := gs_10 (q := (⟨"CarHouseModel", "end", "()Z"⟩, 112)) (List.mem_of_getElem? (i := 15) rfl)
theorem sl_160 : Cond.selects "CarHouseModel" ⟨"CarHouseModel", "addName", "(IIII)V"⟩ ⟨"CarHouseModel", "addName", "(IIII)V"⟩ ∈ GT := gs_11 (q := (⟨"CarHouseModel", "addName", "(IIII)V"⟩, 112)) (List.mem_of_getElem? (i := 0) rfl)
theorem sl_161 : Cond.selects "CarHouseModel" ⟨"CarHouseModel", "addTask", "()Z"⟩ ⟨"CarHouseModel", "addTask", "()Z"⟩ ∈ GT := gs_11 (q := (⟨"CarHouseModel", "addTask", "()Z"⟩, 112)) (List.mem_of_getElem? (i := 1) rfl)
theorem sl_162 : Cond.selects "CarHouseModel" ⟨"CarHouseModel", "named", "(I)I"⟩ ⟨"CarHouseModel", "named", "(I)I"⟩ ∈ GT := gs_11 (q := (⟨"CarHouseModel", "named", "(I)I"⟩, 112)) (List.mem_of_getElem? (i := 2) rfl)
theorem sl_163 : Cond.selects "CarHouseModel" ⟨"CarHouseModel", "number", "(II)Z"⟩ ⟨"CarHouseModel", "number", "(II)Z"⟩ ∈ GT := gs_11 (q := (⟨"CarHouseModel", "number", "(II)Z"⟩, 112)) (List.mem_of_getElem? (i := 3) rfl)
theorem sl_164 : Cond.selects "CarHouseModel" ⟨"CarHouseModel", "isNumber", "()Z"⟩ ⟨"CarHouseModel", "isNumber", "()Z"⟩ ∈ GT := gs_11 (q := (⟨"CarHouseModel", "isNumber", "()Z"⟩, 112)) (List.mem_of_getElem? (i := 4) rfl)
theorem sl_165 : Cond.selects "CarHouseModel" ⟨"CarHouseModel", "addChart", "()Z"⟩ ⟨"CarHouseModel", "addChart", "()Z"⟩ ∈ GT := gs_11 (q := (⟨"CarHouseModel", "addChart", "()Z"⟩, 112)) (List.mem_of_getElem? (i := 5) rfl)
theorem sl_166 : Cond.selects "CarHouseModel" ⟨"CarHouseModel", "addState", "()Z"⟩ ⟨"CarHouseModel", "addState", "()Z"⟩ ∈ GT := gs_11 (q := (⟨"CarHouseModel", "addState", "()Z"⟩, 112)) (List.mem_of_getElem? (i := 6) rfl)
theorem sl_167 : Cond.selects "CarHouseModel" ⟨"CarHouseModel", "findState", "(I)I"⟩ ⟨"CarHouseModel", "findState", "(I)I"⟩ ∈ GT := gs_11 (q := (⟨"CarHouseModel", "findState", "(I)I"⟩, 112)) (List.mem_of_getElem? (i := 7) rfl)
theorem sl_168 : Cond.selects "CarHouseModel" ⟨"CarHouseModel", "newIn", "(Z)Z"⟩ ⟨"CarHouseModel", "newIn", "(Z)Z"⟩ ∈ GT := gs_11 (q := (⟨"CarHouseModel", "newIn", "(Z)Z"⟩, 112)) (List.mem_of_getElem? (i := 8) rfl)
theorem sl_169 : Cond.selects "CarHouseModel" ⟨"CarHouseModel", "takes", "(J)Z"⟩ ⟨"CarHouseModel", "takes", "(J)Z"⟩ ∈ GT := gs_11 (q := (⟨"CarHouseModel", "takes", "(J)Z"⟩, 112)) (List.mem_of_getElem? (i := 9) rfl)
theorem sl_170 : Cond.selects "CarHouseModel" ⟨"CarHouseModel", "state", "(I)I"⟩ ⟨"CarHouseModel", "state", "(I)I"⟩ ∈ GT := gs_11 (q := (⟨"CarHouseModel", "state", "(I)I"⟩, 112)) (List.mem_of_getElem? (i := 10) rfl)
theorem sl_171 : Cond.selects "CarHouseModel" ⟨"CarHouseModel", "kind", "()I"⟩ ⟨"CarHouseModel", "kind", "()I"⟩ ∈ GT := gs_11 (q := (⟨"CarHouseModel", "kind", "()I"⟩, 112)) (List.mem_of_getElem? (i := 11) rfl)
theorem sl_172 : Cond.selects "CarHouseModel$Chart" ⟨"CarHouseModel$Chart", "none", "(I)Z"⟩ ⟨"CarHouseModel$Chart", "none", "(I)Z"⟩ ∈ GT := gs_11 (q := (⟨"CarHouseModel$Chart", "none", "(I)Z"⟩, 42)) (List.mem_of_getElem? (i := 12) rfl)
theorem sl_173 : Cond.selects "CarHouseModel$Chart" ⟨"CarHouseModel$Chart", "mark", "(I)Z"⟩ ⟨"CarHouseModel$Chart", "mark", "(I)Z"⟩ ∈ GT := gs_11 (q := (⟨"CarHouseModel$Chart", "mark", "(I)Z"⟩, 42)) (List.mem_of_getElem? (i := 13) rfl)
theorem sl_174 : Cond.selects "CarHouseModel" ⟨"CarHouseModel", "fits", "(I)Z"⟩ ⟨"CarHouseModel", "fits", "(I)Z"⟩ ∈ GT := gs_11 (q := (⟨"CarHouseModel", "fits", "(I)Z"⟩, 112)) (List.mem_of_getElem? (i := 14) rfl)
theorem sl_175 : Cond.selects "CarHouseModel" ⟨"CarHouseModel", "addEdge", "()Z"⟩ ⟨"CarHouseModel", "addEdge", "()Z"⟩ ∈ GT := gs_11 (q := (⟨"CarHouseModel", "addEdge", "()Z"⟩, 112)) (List.mem_of_getElem? (i := 15) rfl)
theorem sl_176 : Cond.selects "CarHouseModel" ⟨"CarHouseModel", "guard", "(I)I"⟩ ⟨"CarHouseModel", "guard", "(I)I"⟩ ∈ GT := gs_12 (q := (⟨"CarHouseModel", "guard", "(I)I"⟩, 112)) (List.mem_of_getElem? (i := 0) rfl)
theorem sl_177 : Cond.selects "CarHouseModel" ⟨"CarHouseModel", "datum", "(I)I"⟩ ⟨"CarHouseModel", "datum", "(I)I"⟩ ∈ GT := gs_12 (q := (⟨"CarHouseModel", "datum", "(I)I"⟩, 112)) (List.mem_of_getElem? (i := 1) rfl)
theorem sl_178 : Cond.selects "CarHouseModel" ⟨"CarHouseModel", "findDatum", "(I)I"⟩ ⟨"CarHouseModel", "findDatum", "(I)I"⟩ ∈ GT := gs_12 (q := (⟨"CarHouseModel", "findDatum", "(I)I"⟩, 112)) (List.mem_of_getElem? (i := 2) rfl)
theorem sl_179 : Cond.selects "CarHouseModel" ⟨"CarHouseModel", "op", "()I"⟩ ⟨"CarHouseModel", "op", "()I"⟩ ∈ GT := gs_12 (q := (⟨"CarHouseModel", "op", "()I"⟩, 112)) (List.mem_of_getElem? (i := 3) rfl)
theorem sl_180 : Cond.selects "CarHouseModel" ⟨"CarHouseModel", "addAfter", "()Z"⟩ ⟨"CarHouseModel", "addAfter", "()Z"⟩ ∈ GT := gs_12 (q := (⟨"CarHouseModel", "addAfter", "()Z"⟩, 112)) (List.mem_of_getElem? (i := 4) rfl)
theorem sl_181 : Cond.selects "CarHouseModel" ⟨"CarHouseModel", "addDatum", "()Z"⟩ ⟨"CarHouseModel", "addDatum", "()Z"⟩ ∈ GT := gs_12 (q := (⟨"CarHouseModel", "addDatum", "()Z"⟩, 112)) (List.mem_of_getElem? (i := 5) rfl)
theorem sl_182 : Cond.selects "CarHouseModel" ⟨"CarHouseModel", "addAct", "(I)Z"⟩ ⟨"CarHouseModel", "addAct", "(I)Z"⟩ ∈ GT := gs_12 (q := (⟨"CarHouseModel", "addAct", "(I)Z"⟩, 112)) (List.mem_of_getElem? (i := 6) rfl)
theorem sl_183 : Cond.selects "CarHouseModel" ⟨"CarHouseModel", "addSignal", "()Z"⟩ ⟨"CarHouseModel", "addSignal", "()Z"⟩ ∈ GT := gs_12 (q := (⟨"CarHouseModel", "addSignal", "()Z"⟩, 112)) (List.mem_of_getElem? (i := 7) rfl)
theorem sl_184 : Cond.selects "CarHouseModel" ⟨"CarHouseModel", "addKey", "()Z"⟩ ⟨"CarHouseModel", "addKey", "()Z"⟩ ∈ GT := gs_12 (q := (⟨"CarHouseModel", "addKey", "()Z"⟩, 112)) (List.mem_of_getElem? (i := 8) rfl)
theorem sl_185 : Cond.selects "CarHouseModel" ⟨"CarHouseModel", "keyOf", "(II)I"⟩ ⟨"CarHouseModel", "keyOf", "(II)I"⟩ ∈ GT := gs_12 (q := (⟨"CarHouseModel", "keyOf", "(II)I"⟩, 112)) (List.mem_of_getElem? (i := 9) rfl)
theorem sl_186 : Cond.selects "CarHouseModel" ⟨"CarHouseModel", "addRead", "()Z"⟩ ⟨"CarHouseModel", "addRead", "()Z"⟩ ∈ GT := gs_12 (q := (⟨"CarHouseModel", "addRead", "()Z"⟩, 112)) (List.mem_of_getElem? (i := 10) rfl)
theorem sl_187 : Cond.selects "CarHouseModel" ⟨"CarHouseModel", "senderOf", "(I)I"⟩ ⟨"CarHouseModel", "senderOf", "(I)I"⟩ ∈ GT := gs_12 (q := (⟨"CarHouseModel", "senderOf", "(I)I"⟩, 112)) (List.mem_of_getElem? (i := 11) rfl)
theorem sl_188 : Cond.selects "CarHouseModel" ⟨"CarHouseModel", "addWatch", "()Z"⟩ ⟨"CarHouseModel", "addWatch", "()Z"⟩ ∈ GT := gs_12 (q := (⟨"CarHouseModel", "addWatch", "()Z"⟩, 112)) (List.mem_of_getElem? (i := 12) rfl)
theorem sl_189 : Cond.selects "CarHouseModel$Troubles" ⟨"CarHouseModel$Troubles", "freshen", "(I)V"⟩ ⟨"CarHouseModel$Troubles", "freshen", "(I)V"⟩ ∈ GT := gs_12 (q := (⟨"CarHouseModel$Troubles", "freshen", "(I)V"⟩, 26)) (List.mem_of_getElem? (i := 13) rfl)
theorem sl_190 : Cond.selects "CarHouseModel$Troubles" ⟨"CarHouseModel$Troubles", "set", "(IIZ)V"⟩ ⟨"CarHouseModel$Troubles", "set", "(IIZ)V"⟩ ∈ GT := gs_12 (q := (⟨"CarHouseModel$Troubles", "set", "(IIZ)V"⟩, 26)) (List.mem_of_getElem? (i := 14) rfl)
theorem sl_191 : Cond.selects "CarHouseModel$Troubles" ⟨"CarHouseModel$Troubles", "keep", "(I)V"⟩ ⟨"CarHouseModel$Troubles", "keep", "(I)V"⟩ ∈ GT := gs_12 (q := (⟨"CarHouseModel$Troubles", "keep", "(I)V"⟩, 26)) (List.mem_of_getElem? (i := 15) rfl)
theorem sl_192 : Cond.selects "CarHouseModel$Troubles" ⟨"CarHouseModel$Troubles", "is", "(II)Z"⟩ ⟨"CarHouseModel$Troubles", "is", "(II)Z"⟩ ∈ GT := gs_13 (q := (⟨"CarHouseModel$Troubles", "is", "(II)Z"⟩, 26)) (List.mem_of_getElem? (i := 0) rfl)
theorem sl_193 : Cond.selects "CarHouseModel" ⟨"CarHouseModel", "join", "()Z"⟩ ⟨"CarHouseModel", "join", "()Z"⟩ ∈ GT := gs_13 (q := (⟨"CarHouseModel", "join", "()Z"⟩, 112)) (List.mem_of_getElem? (i := 1) rfl)
theorem sl_194 : Cond.selects "CarHouseModel" ⟨"CarHouseModel", "packOne", "(IZI)Z"⟩ ⟨"CarHouseModel", "packOne", "(IZI)Z"⟩ ∈ GT := gs_13 (q := (⟨"CarHouseModel", "packOne", "(IZI)Z"⟩, 112)) (List.mem_of_getElem? (i := 2) rfl)
theorem sl_195 : Cond.selects "CarHouseModel$Pack" ⟨"CarHouseModel$Pack", "packs", "(J)Z"⟩ ⟨"CarHouseModel$Pack", "packs", "(J)Z"⟩ ∈ GT := gs_13 (q := (⟨"CarHouseModel$Pack", "packs", "(J)Z"⟩, 27)) (List.mem_of_getElem? (i := 3) rfl)
theorem sl_196 : Cond.selects "CarHouseModel$Pack" ⟨"CarHouseModel$Pack", "isGroup", "(I)Z"⟩ ⟨"CarHouseModel$Pack", "isGroup", "(I)Z"⟩ ∈ GT := gs_13 (q := (⟨"CarHouseModel$Pack", "isGroup", "(I)Z"⟩, 27)) (List.mem_of_getElem? (i := 4) rfl)
theorem sl_197 : Cond.selects "CarHouseModel$Pack" ⟨"CarHouseModel$Pack", "size", "(I)I"⟩ ⟨"CarHouseModel$Pack", "size", "(I)I"⟩ ∈ GT := gs_13 (q := (⟨"CarHouseModel$Pack", "size", "(I)I"⟩, 27)) (List.mem_of_getElem? (i := 5) rfl)
theorem sl_198 : Cond.selects "CarHouseModel$Pack" ⟨"CarHouseModel$Pack", "part", "(IIII)I"⟩ ⟨"CarHouseModel$Pack", "part", "(IIII)I"⟩ ∈ GT := gs_13 (q := (⟨"CarHouseModel$Pack", "part", "(IIII)I"⟩, 27)) (List.mem_of_getElem? (i := 6) rfl)
theorem sl_199 : Cond.selects "CarHouseModel$Pack" ⟨"CarHouseModel$Pack", "octetsOf", "(I)I"⟩ ⟨"CarHouseModel$Pack", "octetsOf", "(I)I"⟩ ∈ GT := gs_13 (q := (⟨"CarHouseModel$Pack", "octetsOf", "(I)I"⟩, 27)) (List.mem_of_getElem? (i := 7) rfl)
theorem sl_200 : Cond.selects "CarHouseModel$Pack" ⟨"CarHouseModel$Pack", "hasOther", "(II)Z"⟩ ⟨"CarHouseModel$Pack", "hasOther", "(II)Z"⟩ ∈ GT := gs_13 (q := (⟨"CarHouseModel$Pack", "hasOther", "(II)Z"⟩, 27)) (List.mem_of_getElem? (i := 8) rfl)
theorem sl_201 : Cond.selects "CarHouseModel$Pack" ⟨"CarHouseModel$Pack", "isFree", "(III)Z"⟩ ⟨"CarHouseModel$Pack", "isFree", "(III)Z"⟩ ∈ GT := gs_13 (q := (⟨"CarHouseModel$Pack", "isFree", "(III)Z"⟩, 27)) (List.mem_of_getElem? (i := 9) rfl)
theorem sl_202 : Cond.selects "CarHouseModel$Pack" ⟨"CarHouseModel$Pack", "packPeriod", "(IJ)Z"⟩ ⟨"CarHouseModel$Pack", "packPeriod", "(IJ)Z"⟩ ∈ GT := gs_13 (q := (⟨"CarHouseModel$Pack", "packPeriod", "(IJ)Z"⟩, 27)) (List.mem_of_getElem? (i := 10) rfl)
theorem sl_203 : Cond.selects "CarHouseModel$Pack" ⟨"CarHouseModel$Pack", "listed", "(I)I"⟩ ⟨"CarHouseModel$Pack", "listed", "(I)I"⟩ ∈ GT := gs_13 (q := (⟨"CarHouseModel$Pack", "listed", "(I)I"⟩, 27)) (List.mem_of_getElem? (i := 11) rfl)
theorem sl_204 : Cond.selects "CarHouseModel$Pack" ⟨"CarHouseModel$Pack", "isUsed", "(I)Z"⟩ ⟨"CarHouseModel$Pack", "isUsed", "(I)Z"⟩ ∈ GT := gs_13 (q := (⟨"CarHouseModel$Pack", "isUsed", "(I)Z"⟩, 27)) (List.mem_of_getElem? (i := 12) rfl)
theorem sl_205 : Cond.selects "CarHouseModel$Pack" ⟨"CarHouseModel$Pack", "inTurn", "(II)Z"⟩ ⟨"CarHouseModel$Pack", "inTurn", "(II)Z"⟩ ∈ GT := gs_13 (q := (⟨"CarHouseModel$Pack", "inTurn", "(II)Z"⟩, 27)) (List.mem_of_getElem? (i := 13) rfl)
theorem sl_206 : Cond.selects "CarHouseModel$Pack" ⟨"CarHouseModel$Pack", "room", "(II)I"⟩ ⟨"CarHouseModel$Pack", "room", "(II)I"⟩ ∈ GT := gs_13 (q := (⟨"CarHouseModel$Pack", "room", "(II)I"⟩, 27)) (List.mem_of_getElem? (i := 14) rfl)
theorem sl_207 : Cond.selects "CarHouseModel$Pack" ⟨"CarHouseModel$Pack", "newFrame", "()I"⟩ ⟨"CarHouseModel$Pack", "newFrame", "()I"⟩ ∈ GT := gs_13 (q := (⟨"CarHouseModel$Pack", "newFrame", "()I"⟩, 27)) (List.mem_of_getElem? (i := 15) rfl)
theorem sl_208 : Cond.selects "CarHouseModel$Pack" ⟨"CarHouseModel$Pack", "search", "(III)Z"⟩ ⟨"CarHouseModel$Pack", "search", "(III)Z"⟩ ∈ GT := gs_14 (q := (⟨"CarHouseModel$Pack", "search", "(III)Z"⟩, 27)) (List.mem_of_getElem? (i := 0) rfl)
theorem sl_209 : Cond.selects "CarHouseModel$Pack" ⟨"CarHouseModel$Pack", "frames", "()I"⟩ ⟨"CarHouseModel$Pack", "frames", "()I"⟩ ∈ GT := gs_14 (q := (⟨"CarHouseModel$Pack", "frames", "()I"⟩, 27)) (List.mem_of_getElem? (i := 1) rfl)
theorem sl_210 : Cond.selects "CarHouseModel$Pack" ⟨"CarHouseModel$Pack", "bitInGroup", "(I)I"⟩ ⟨"CarHouseModel$Pack", "bitInGroup", "(I)I"⟩ ∈ GT := gs_14 (q := (⟨"CarHouseModel$Pack", "bitInGroup", "(I)I"⟩, 27)) (List.mem_of_getElem? (i := 2) rfl)
theorem sl_211 : Cond.selects "CarHouseModel$Pack" ⟨"CarHouseModel$Pack", "none", "(I)Z"⟩ ⟨"CarHouseModel$Pack", "none", "(I)Z"⟩ ∈ GT := gs_14 (q := (⟨"CarHouseModel$Pack", "none", "(I)Z"⟩, 27)) (List.mem_of_getElem? (i := 3) rfl)
theorem sl_212 : Cond.selects "CarHouseModel$Pack" ⟨"CarHouseModel$Pack", "isNowhere", "(I)Z"⟩ ⟨"CarHouseModel$Pack", "isNowhere", "(I)Z"⟩ ∈ GT := gs_14 (q := (⟨"CarHouseModel$Pack", "isNowhere", "(I)Z"⟩, 27)) (List.mem_of_getElem? (i := 4) rfl)
theorem sl_213 : Cond.selects "CarHouseModel" ⟨"CarHouseModel", "build", "()Z"⟩ ⟨"CarHouseModel", "build", "()Z"⟩ ∈ GT := gs_14 (q := (⟨"CarHouseModel", "build", "()Z"⟩, 112)) (List.mem_of_getElem? (i := 5) rfl)
theorem sl_214 : Cond.selects "CarHouseModel$Cores" ⟨"CarHouseModel$Cores", "no", "(I)Z"⟩ ⟨"CarHouseModel$Cores", "no", "(I)Z"⟩ ∈ GT := gs_14 (q := (⟨"CarHouseModel$Cores", "no", "(I)Z"⟩, 45)) (List.mem_of_getElem? (i := 6) rfl)
theorem sl_215 : Cond.selects "CarHouseModel" ⟨"CarHouseModel", "microsecond", "()V"⟩ ⟨"CarHouseModel", "microsecond", "()V"⟩ ∈ GT := gs_14 (q := (⟨"CarHouseModel", "microsecond", "()V"⟩, 112)) (List.mem_of_getElem? (i := 7) rfl)
theorem sl_216 : Cond.selects "CarHouseModel" ⟨"CarHouseModel", "send", "(I)V"⟩ ⟨"CarHouseModel", "send", "(I)V"⟩ ∈ GT := gs_14 (q := (⟨"CarHouseModel", "send", "(I)V"⟩, 112)) (List.mem_of_getElem? (i := 8) rfl)
theorem sl_217 : Cond.selects "CarHouseModel$Pack" ⟨"CarHouseModel$Pack", "write", "(IJ)V"⟩ ⟨"CarHouseModel$Pack", "write", "(IJ)V"⟩ ∈ GT := gs_14 (q := (⟨"CarHouseModel$Pack", "write", "(IJ)V"⟩, 27)) (List.mem_of_getElem? (i := 9) rfl)
theorem sl_218 : Cond.selects "CarHouseModel$Pack" ⟨"CarHouseModel$Pack", "where", "(II)I"⟩ ⟨"CarHouseModel$Pack", "where", "(II)I"⟩ ∈ GT := gs_14 (q := (⟨"CarHouseModel$Pack", "where", "(II)I"⟩, 27)) (List.mem_of_getElem? (i := 10) rfl)
theorem sl_219 : Cond.selects "CarHouseModel$Pack" ⟨"CarHouseModel$Pack", "noFrame", "(I)Z"⟩ ⟨"CarHouseModel$Pack", "noFrame", "(I)Z"⟩ ∈ GT := gs_14 (q := (⟨"CarHouseModel$Pack", "noFrame", "(I)Z"⟩, 27)) (List.mem_of_getElem? (i := 11) rfl)
theorem sl_220 : Cond.selects "CarHouseModel" ⟨"CarHouseModel", "codeOf", "(IJ)V"⟩ ⟨"CarHouseModel", "codeOf", "(IJ)V"⟩ ∈ GT := gs_14 (q := (⟨"CarHouseModel", "codeOf", "(IJ)V"⟩, 112)) (List.mem_of_getElem? (i := 12) rfl)
theorem sl_221 : Cond.selects "CarHouseModel$Codes" ⟨"CarHouseModel$Codes", "codeOf", "(II)V"⟩ ⟨"CarHouseModel$Codes", "codeOf", "(II)V"⟩ ∈ GT := gs_14 (q := (⟨"CarHouseModel$Codes", "codeOf", "(II)V"⟩, 19)) (List.mem_of_getElem? (i := 13) rfl)
theorem sl_222 : Cond.selects "CarHouseModel$Codes" ⟨"CarHouseModel$Codes", "cipher", "(I)V"⟩ ⟨"CarHouseModel$Codes", "cipher", "(I)V"⟩ ∈ GT := gs_14 (q := (⟨"CarHouseModel$Codes", "cipher", "(I)V"⟩, 19)) (List.mem_of_getElem? (i := 14) rfl)
theorem sl_223 : Cond.selects "CarHouseModel$Codes" ⟨"CarHouseModel$Codes", "makeRound", "(I)V"⟩ ⟨"CarHouseModel$Codes", "makeRound", "(I)V"⟩ ∈ GT := gs_14 (q := (⟨"CarHouseModel$Codes", "makeRound", "(I)V"⟩, 19)) (List.mem_of_getElem? (i := 15) rfl)
theorem sl_224 : Cond.selects "CarHouseModel$Codes" ⟨"CarHouseModel$Codes", "substitute", "(I)I"⟩ ⟨"CarHouseModel$Codes", "substitute", "(I)I"⟩ ∈ GT := gs_15 (q := (⟨"CarHouseModel$Codes", "substitute", "(I)I"⟩, 19)) (List.mem_of_getElem? (i := 0) rfl)
theorem sl_225 : Cond.selects "CarHouseModel$Codes" ⟨"CarHouseModel$Codes", "doubled", "()V"⟩ ⟨"CarHouseModel$Codes", "doubled", "()V"⟩ ∈ GT := gs_15 (q := (⟨"CarHouseModel$Codes", "doubled", "()V"⟩, 19)) (List.mem_of_getElem? (i := 1) rfl)
theorem sl_226 : Cond.selects "CarHouseModel$Codes" ⟨"CarHouseModel$Codes", "tell", "(I)I"⟩ ⟨"CarHouseModel$Codes", "tell", "(I)I"⟩ ∈ GT := gs_15 (q := (⟨"CarHouseModel$Codes", "tell", "(I)I"⟩, 19)) (List.mem_of_getElem? (i := 2) rfl)
theorem sl_227 : Cond.selects "CarHouseModel" ⟨"CarHouseModel", "put", "(III)Z"⟩ ⟨"CarHouseModel", "put", "(III)Z"⟩ ∈ GT := gs_15 (q := (⟨"CarHouseModel", "put", "(III)Z"⟩, 112)) (List.mem_of_getElem? (i := 3) rfl)
theorem sl_228 : Cond.selects "CarHouseModel$Bus" ⟨"CarHouseModel$Bus", "noNode", "(I)Z"⟩ ⟨"CarHouseModel$Bus", "noNode", "(I)Z"⟩ ∈ GT := gs_15 (q := (⟨"CarHouseModel$Bus", "noNode", "(I)Z"⟩, 51)) (List.mem_of_getElem? (i := 4) rfl)
theorem sl_229 : Cond.selects "CarHouseModel$Bus" ⟨"CarHouseModel$Bus", "noFrame", "(I)Z"⟩ ⟨"CarHouseModel$Bus", "noFrame", "(I)Z"⟩ ∈ GT := gs_15 (q := (⟨"CarHouseModel$Bus", "noFrame", "(I)Z"⟩, 51)) (List.mem_of_getElem? (i := 5) rfl)
theorem sl_230 : Cond.selects "CarHouseModel$Bus" ⟨"CarHouseModel$Bus", "puts", "(I)I"⟩ ⟨"CarHouseModel$Bus", "puts", "(I)I"⟩ ∈ GT := gs_15 (q := (⟨"CarHouseModel$Bus", "puts", "(I)I"⟩, 51)) (List.mem_of_getElem? (i := 6) rfl)
theorem sl_231 : Cond.selects "CarHouseModel$Bus" ⟨"CarHouseModel$Bus", "first", "(I)I"⟩ ⟨"CarHouseModel$Bus", "first", "(I)I"⟩ ∈ GT := gs_15 (q := (⟨"CarHouseModel$Bus", "first", "(I)I"⟩, 51)) (List.mem_of_getElem? (i := 7) rfl)
theorem sl_232 : Cond.selects "CarHouseModel$Bus" ⟨"CarHouseModel$Bus", "writePlain", "(I)V"⟩ ⟨"CarHouseModel$Bus", "writePlain", "(I)V"⟩ ∈ GT := gs_15 (q := (⟨"CarHouseModel$Bus", "writePlain", "(I)V"⟩, 51)) (List.mem_of_getElem? (i := 8) rfl)
theorem sl_233 : Cond.selects "CarHouseModel$Bus" ⟨"CarHouseModel$Bus", "bits", "(II)V"⟩ ⟨"CarHouseModel$Bus", "bits", "(II)V"⟩ ∈ GT := gs_15 (q := (⟨"CarHouseModel$Bus", "bits", "(II)V"⟩, 51)) (List.mem_of_getElem? (i := 9) rfl)
theorem sl_234 : Cond.selects "CarHouseModel$Bus" ⟨"CarHouseModel$Bus", "write", "(I)V"⟩ ⟨"CarHouseModel$Bus", "write", "(I)V"⟩ ∈ GT := gs_15 (q := (⟨"CarHouseModel$Bus", "write", "(I)V"⟩, 51)) (List.mem_of_getElem? (i := 10) rfl)
theorem sl_235 : Cond.selects "CarHouseModel$Bus" ⟨"CarHouseModel$Bus", "writeAnew", "(I)V"⟩ ⟨"CarHouseModel$Bus", "writeAnew", "(I)V"⟩ ∈ GT := gs_15 (q := (⟨"CarHouseModel$Bus", "writeAnew", "(I)V"⟩, 51)) (List.mem_of_getElem? (i := 11) rfl)
theorem sl_236 : Cond.selects "CarHouseModel$Bus" ⟨"CarHouseModel$Bus", "check", "(I)V"⟩ ⟨"CarHouseModel$Bus", "check", "(I)V"⟩ ∈ GT := gs_15 (q := (⟨"CarHouseModel$Bus", "check", "(I)V"⟩, 51)) (List.mem_of_getElem? (i := 12) rfl)
theorem sl_237 : Cond.selects "CarHouseModel$Bus" ⟨"CarHouseModel$Bus", "checkOf", "(I)I"⟩ ⟨"CarHouseModel$Bus", "checkOf", "(I)I"⟩ ∈ GT := gs_15 (q := (⟨"CarHouseModel$Bus", "checkOf", "(I)I"⟩, 51)) (List.mem_of_getElem? (i := 13) rfl)
theorem sl_238 : Cond.selects "CarHouseModel$Bus" ⟨"CarHouseModel$Bus", "put", "(IZ)V"⟩ ⟨"CarHouseModel$Bus", "put", "(IZ)V"⟩ ∈ GT := gs_15 (q := (⟨"CarHouseModel$Bus", "put", "(IZ)V"⟩, 51)) (List.mem_of_getElem? (i := 14) rfl)
theorem sl_239 : Cond.selects "CarHouseModel$Bus" ⟨"CarHouseModel$Bus", "five", "()Z"⟩ ⟨"CarHouseModel$Bus", "five", "()Z"⟩ ∈ GT := gs_15 (q := (⟨"CarHouseModel$Bus", "five", "()Z"⟩, 51)) (List.mem_of_getElem? (i := 15) rfl)
theorem sl_240 : Cond.selects "CarHouseModel$Bus" ⟨"CarHouseModel$Bus", "writeTail", "(II)V"⟩ ⟨"CarHouseModel$Bus", "writeTail", "(II)V"⟩ ∈ GT := gs_16 (q := (⟨"CarHouseModel$Bus", "writeTail", "(II)V"⟩, 51)) (List.mem_of_getElem? (i := 0) rfl)
theorem sl_241 : Cond.selects "CarHouseModel$Bus" ⟨"CarHouseModel$Bus", "answers", "(I)Z"⟩ ⟨"CarHouseModel$Bus", "answers", "(I)Z"⟩ ∈ GT := gs_16 (q := (⟨"CarHouseModel$Bus", "answers", "(I)Z"⟩, 51)) (List.mem_of_getElem? (i := 1) rfl)
theorem sl_242 : Cond.selects "CarHouseModel$Bus" ⟨"CarHouseModel$Bus", "body", "(I)I"⟩ ⟨"CarHouseModel$Bus", "body", "(I)I"⟩ ∈ GT := gs_16 (q := (⟨"CarHouseModel$Bus", "body", "(I)I"⟩, 51)) (List.mem_of_getElem? (i := 2) rfl)
theorem sl_243 : Cond.selects "CarHouseModel$Bus" ⟨"CarHouseModel$Bus", "bodyAnew", "(I)I"⟩ ⟨"CarHouseModel$Bus", "bodyAnew", "(I)I"⟩ ∈ GT := gs_16 (q := (⟨"CarHouseModel$Bus", "bodyAnew", "(I)I"⟩, 51)) (List.mem_of_getElem? (i := 3) rfl)
theorem sl_244 : Cond.selects "CarHouseModel$Bus" ⟨"CarHouseModel$Bus", "bitAt", "(II)I"⟩ ⟨"CarHouseModel$Bus", "bitAt", "(II)I"⟩ ∈ GT := gs_16 (q := (⟨"CarHouseModel$Bus", "bitAt", "(II)I"⟩, 51)) (List.mem_of_getElem? (i := 4) rfl)
theorem sl_245 : Cond.selects "CarHouseModel$Bus" ⟨"CarHouseModel$Bus", "find", "(ZZI)V"⟩ ⟨"CarHouseModel$Bus", "find", "(ZZI)V"⟩ ∈ GT := gs_16 (q := (⟨"CarHouseModel$Bus", "find", "(ZZI)V"⟩, 51)) (List.mem_of_getElem? (i := 5) rfl)
theorem sl_246 : Cond.selects "CarHouseModel$Bus" ⟨"CarHouseModel$Bus", "number", "(II)I"⟩ ⟨"CarHouseModel$Bus", "number", "(II)I"⟩ ∈ GT := gs_16 (q := (⟨"CarHouseModel$Bus", "number", "(II)I"⟩, 51)) (List.mem_of_getElem? (i := 6) rfl)
theorem sl_247 : Cond.selects "CarHouseModel$Bus" ⟨"CarHouseModel$Bus", "tail", "()I"⟩ ⟨"CarHouseModel$Bus", "tail", "()I"⟩ ∈ GT := gs_16 (q := (⟨"CarHouseModel$Bus", "tail", "()I"⟩, 51)) (List.mem_of_getElem? (i := 7) rfl)
theorem sl_248 : Cond.selects "CarHouseModel$Bus" ⟨"CarHouseModel$Bus", "width", "()I"⟩ ⟨"CarHouseModel$Bus", "width", "()I"⟩ ∈ GT := gs_16 (q := (⟨"CarHouseModel$Bus", "width", "()I"⟩, 51)) (List.mem_of_getElem? (i := 8) rfl)
theorem sl_249 : Cond.selects "CarHouseModel$Bus" ⟨"CarHouseModel$Bus", "right", "(I)Z"⟩ ⟨"CarHouseModel$Bus", "right", "(I)Z"⟩ ∈ GT := gs_16 (q := (⟨"CarHouseModel$Bus", "right", "(I)Z"⟩, 51)) (List.mem_of_getElem? (i := 9) rfl)
theorem sl_250 : Cond.selects "CarHouseModel$Bus" ⟨"CarHouseModel$Bus", "sees", "(II)V"⟩ ⟨"CarHouseModel$Bus", "sees", "(II)V"⟩ ∈ GT := gs_16 (q := (⟨"CarHouseModel$Bus", "sees", "(II)V"⟩, 51)) (List.mem_of_getElem? (i := 10) rfl)
theorem sl_251 : Cond.selects "CarHouseModel$Bus" ⟨"CarHouseModel$Bus", "sent", "(II)V"⟩ ⟨"CarHouseModel$Bus", "sent", "(II)V"⟩ ∈ GT := gs_16 (q := (⟨"CarHouseModel$Bus", "sent", "(II)V"⟩, 51)) (List.mem_of_getElem? (i := 11) rfl)
theorem sl_252 : Cond.selects "CarHouseModel$Bus" ⟨"CarHouseModel$Bus", "see", "(II)V"⟩ ⟨"CarHouseModel$Bus", "see", "(II)V"⟩ ∈ GT := gs_16 (q := (⟨"CarHouseModel$Bus", "see", "(II)V"⟩, 51)) (List.mem_of_getElem? (i := 12) rfl)
theorem sl_253 : Cond.selects "CarHouseModel$Bus" ⟨"CarHouseModel$Bus", "wrong", "(II)V"⟩ ⟨"CarHouseModel$Bus", "wrong", "(II)V"⟩ ∈ GT := gs_16 (q := (⟨"CarHouseModel$Bus", "wrong", "(II)V"⟩, 51)) (List.mem_of_getElem? (i := 13) rfl)
theorem sl_254 : Cond.selects "CarHouseModel$Bus" ⟨"CarHouseModel$Bus", "go", "(III)V"⟩ ⟨"CarHouseModel$Bus", "go", "(III)V"⟩ ∈ GT := gs_16 (q := (⟨"CarHouseModel$Bus", "go", "(III)V"⟩, 51)) (List.mem_of_getElem? (i := 14) rfl)
theorem sl_255 : Cond.selects "CarHouseModel$Bus" ⟨"CarHouseModel$Bus", "read", "(I)I"⟩ ⟨"CarHouseModel$Bus", "read", "(I)I"⟩ ∈ GT := gs_16 (q := (⟨"CarHouseModel$Bus", "read", "(I)I"⟩, 51)) (List.mem_of_getElem? (i := 15) rfl)
theorem sl_256 : Cond.selects "CarHouseModel$Bus" ⟨"CarHouseModel$Bus", "take", "(I)V"⟩ ⟨"CarHouseModel$Bus", "take", "(I)V"⟩ ∈ GT := gs_17 (q := (⟨"CarHouseModel$Bus", "take", "(I)V"⟩, 51)) (List.mem_of_getElem? (i := 0) rfl)
theorem sl_257 : Cond.selects "CarHouseModel$Bus" ⟨"CarHouseModel$Bus", "pauses", "(II)V"⟩ ⟨"CarHouseModel$Bus", "pauses", "(II)V"⟩ ∈ GT := gs_17 (q := (⟨"CarHouseModel$Bus", "pauses", "(II)V"⟩, 51)) (List.mem_of_getElem? (i := 1) rfl)
theorem sl_258 : Cond.selects "CarHouseModel$Cores" ⟨"CarHouseModel$Cores", "findCeilings", "()V"⟩ ⟨"CarHouseModel$Cores", "findCeilings", "()V"⟩ ∈ GT := gs_17 (q := (⟨"CarHouseModel$Cores", "findCeilings", "()V"⟩, 45)) (List.mem_of_getElem? (i := 2) rfl)
theorem sl_259 : Cond.selects "CarHouseModel$Cores" ⟨"CarHouseModel$Cores", "microsecond", "()I"⟩ ⟨"CarHouseModel$Cores", "microsecond", "()I"⟩ ∈ GT := gs_17 (q := (⟨"CarHouseModel$Cores", "microsecond", "()I"⟩, 45)) (List.mem_of_getElem? (i := 3) rfl)
theorem sl_260 : Cond.selects "CarHouseModel$Cores" ⟨"CarHouseModel$Cores", "begin", "(I)V"⟩ ⟨"CarHouseModel$Cores", "begin", "(I)V"⟩ ∈ GT := gs_17 (q := (⟨"CarHouseModel$Cores", "begin", "(I)V"⟩, 45)) (List.mem_of_getElem? (i := 4) rfl)
theorem sl_261 : Cond.selects "CarHouseModel$Cores" ⟨"CarHouseModel$Cores", "tell", "(II)V"⟩ ⟨"CarHouseModel$Cores", "tell", "(II)V"⟩ ∈ GT := gs_17 (q := (⟨"CarHouseModel$Cores", "tell", "(II)V"⟩, 45)) (List.mem_of_getElem? (i := 5) rfl)
theorem sl_262 : Cond.selects "CarHouseModel$Cores" ⟨"CarHouseModel$Cores", "ready", "(I)V"⟩ ⟨"CarHouseModel$Cores", "ready", "(I)V"⟩ ∈ GT := gs_17 (q := (⟨"CarHouseModel$Cores", "ready", "(I)V"⟩, 45)) (List.mem_of_getElem? (i := 6) rfl)
theorem sl_263 : Cond.selects "CarHouseModel$Cores" ⟨"CarHouseModel$Cores", "step", "(I)Z"⟩ ⟨"CarHouseModel$Cores", "step", "(I)Z"⟩ ∈ GT := gs_17 (q := (⟨"CarHouseModel$Cores", "step", "(I)Z"⟩, 45)) (List.mem_of_getElem? (i := 7) rfl)
theorem sl_264 : Cond.selects "CarHouseModel$Cores" ⟨"CarHouseModel$Cores", "atHand", "()I"⟩ ⟨"CarHouseModel$Cores", "atHand", "()I"⟩ ∈ GT := gs_17 (q := (⟨"CarHouseModel$Cores", "atHand", "()I"⟩, 45)) (List.mem_of_getElem? (i := 8) rfl)
theorem sl_265 : Cond.selects "CarHouseModel$Cores" ⟨"CarHouseModel$Cores", "choose", "(I)I"⟩ ⟨"CarHouseModel$Cores", "choose", "(I)I"⟩ ∈ GT := gs_17 (q := (⟨"CarHouseModel$Cores", "choose", "(I)I"⟩, 45)) (List.mem_of_getElem? (i := 9) rfl)
theorem sl_266 : Cond.selects "CarHouseModel$Cores" ⟨"CarHouseModel$Cores", "runningOf", "(I)I"⟩ ⟨"CarHouseModel$Cores", "runningOf", "(I)I"⟩ ∈ GT := gs_17 (q := (⟨"CarHouseModel$Cores", "runningOf", "(I)I"⟩, 45)) (List.mem_of_getElem? (i := 10) rfl)
theorem sl_267 : Cond.selects "CarHouseModel$Cores" ⟨"CarHouseModel$Cores", "height", "(I)I"⟩ ⟨"CarHouseModel$Cores", "height", "(I)I"⟩ ∈ GT := gs_17 (q := (⟨"CarHouseModel$Cores", "height", "(I)I"⟩, 45)) (List.mem_of_getElem? (i := 11) rfl)
theorem sl_268 : Cond.selects "CarHouseModel$Cores" ⟨"CarHouseModel$Cores", "nextPart", "(I)I"⟩ ⟨"CarHouseModel$Cores", "nextPart", "(I)I"⟩ ∈ GT := gs_17 (q := (⟨"CarHouseModel$Cores", "nextPart", "(I)I"⟩, 45)) (List.mem_of_getElem? (i := 12) rfl)
theorem sl_269 : Cond.selects "CarHouseModel$Cores" ⟨"CarHouseModel$Cores", "ends", "(I)V"⟩ ⟨"CarHouseModel$Cores", "ends", "(I)V"⟩ ∈ GT := gs_17 (q := (⟨"CarHouseModel$Cores", "ends", "(I)V"⟩, 45)) (List.mem_of_getElem? (i := 13) rfl)
theorem sl_270 : Cond.selects "CarHouseModel$Cores" ⟨"CarHouseModel$Cores", "free", "(I)V"⟩ ⟨"CarHouseModel$Cores", "free", "(I)V"⟩ ∈ GT := gs_17 (q := (⟨"CarHouseModel$Cores", "free", "(I)V"⟩, 45)) (List.mem_of_getElem? (i := 14) rfl)
theorem sl_271 : Cond.selects "CarHouseModel$Cores" ⟨"CarHouseModel$Cores", "holdsSome", "(I)Z"⟩ ⟨"CarHouseModel$Cores", "holdsSome", "(I)Z"⟩ ∈ GT := gs_17 (q := (⟨"CarHouseModel$Cores", "holdsSome", "(I)Z"⟩, 45)) (List.mem_of_getElem? (i := 15) rfl)
theorem sl_272 : Cond.selects "CarHouseModel$Cores" ⟨"CarHouseModel$Cores", "unlock", "(I)V"⟩ ⟨"CarHouseModel$Cores", "unlock", "(I)V"⟩ ∈ GT := gs_18 (q := (⟨"CarHouseModel$Cores", "unlock", "(I)V"⟩, 45)) (List.mem_of_getElem? (i := 0) rfl)
theorem sl_273 : Cond.selects "CarHouseModel$Cores" ⟨"CarHouseModel$Cores", "act", "(IIJ)V"⟩ ⟨"CarHouseModel$Cores", "act", "(IIJ)V"⟩ ∈ GT := gs_18 (q := (⟨"CarHouseModel$Cores", "act", "(IIJ)V"⟩, 45)) (List.mem_of_getElem? (i := 1) rfl)
theorem sl_274 : Cond.selects "CarHouseModel$Cores" ⟨"CarHouseModel$Cores", "chain", "(II)V"⟩ ⟨"CarHouseModel$Cores", "chain", "(II)V"⟩ ∈ GT := gs_18 (q := (⟨"CarHouseModel$Cores", "chain", "(II)V"⟩, 45)) (List.mem_of_getElem? (i := 2) rfl)
theorem sl_275 : Cond.selects "CarHouseModel$Cores" ⟨"CarHouseModel$Cores", "set", "(II)Z"⟩ ⟨"CarHouseModel$Cores", "set", "(II)Z"⟩ ∈ GT := gs_18 (q := (⟨"CarHouseModel$Cores", "set", "(II)Z"⟩, 45)) (List.mem_of_getElem? (i := 3) rfl)
theorem sl_276 : Cond.selects "CarHouseModel$Cores" ⟨"CarHouseModel$Cores", "pass", "(I)V"⟩ ⟨"CarHouseModel$Cores", "pass", "(I)V"⟩ ∈ GT := gs_18 (q := (⟨"CarHouseModel$Cores", "pass", "(I)V"⟩, 45)) (List.mem_of_getElem? (i := 4) rfl)
theorem sl_277 : Cond.selects "CarHouseModel" ⟨"CarHouseModel", "lookAt", "(I)V"⟩ ⟨"CarHouseModel", "lookAt", "(I)V"⟩ ∈ GT := gs_18 (q := (⟨"CarHouseModel", "lookAt", "(I)V"⟩, 112)) (List.mem_of_getElem? (i := 5) rfl)
theorem sl_278 : Cond.selects "CarHouseModel$Bus" ⟨"CarHouseModel$Bus", "took", "(II)I"⟩ ⟨"CarHouseModel$Bus", "took", "(II)I"⟩ ∈ GT := gs_18 (q := (⟨"CarHouseModel$Bus", "took", "(II)I"⟩, 51)) (List.mem_of_getElem? (i := 6) rfl)
theorem sl_279 : Cond.selects "CarHouseModel" ⟨"CarHouseModel", "come", "(II)V"⟩ ⟨"CarHouseModel", "come", "(II)V"⟩ ∈ GT := gs_18 (q := (⟨"CarHouseModel", "come", "(II)V"⟩, 112)) (List.mem_of_getElem? (i := 7) rfl)
theorem sl_280 : Cond.selects "CarHouseModel" ⟨"CarHouseModel", "right", "(II)Z"⟩ ⟨"CarHouseModel", "right", "(II)Z"⟩ ∈ GT := gs_18 (q := (⟨"CarHouseModel", "right", "(II)Z"⟩, 112)) (List.mem_of_getElem? (i := 8) rfl)
theorem sl_281 : Cond.selects "CarHouseModel$Troubles" ⟨"CarHouseModel$Troubles", "none", "(I)Z"⟩ ⟨"CarHouseModel$Troubles", "none", "(I)Z"⟩ ∈ GT := gs_18 (q := (⟨"CarHouseModel$Troubles", "none", "(I)Z"⟩, 26)) (List.mem_of_getElem? (i := 9) rfl)
theorem sl_282 : Cond.selects "CarHouseModel$Troubles" ⟨"CarHouseModel$Troubles", "statusOf", "(I)I"⟩ ⟨"CarHouseModel$Troubles", "statusOf", "(I)I"⟩ ∈ GT := gs_18 (q := (⟨"CarHouseModel$Troubles", "statusOf", "(I)I"⟩, 26)) (List.mem_of_getElem? (i := 10) rfl)
theorem sl_283 : Cond.selects "CarHouseModel$Troubles" ⟨"CarHouseModel$Troubles", "fails", "(I)V"⟩ ⟨"CarHouseModel$Troubles", "fails", "(I)V"⟩ ∈ GT := gs_18 (q := (⟨"CarHouseModel$Troubles", "fails", "(I)V"⟩, 26)) (List.mem_of_getElem? (i := 11) rfl)
theorem sl_284 : Cond.selects "CarHouseModel$Troubles" ⟨"CarHouseModel$Troubles", "hidden", "(I)Z"⟩ ⟨"CarHouseModel$Troubles", "hidden", "(I)Z"⟩ ∈ GT := gs_18 (q := (⟨"CarHouseModel$Troubles", "hidden", "(I)Z"⟩, 26)) (List.mem_of_getElem? (i := 12) rfl)
theorem sl_285 : Cond.selects "CarHouseModel$Troubles" ⟨"CarHouseModel$Troubles", "store", "(I)V"⟩ ⟨"CarHouseModel$Troubles", "store", "(I)V"⟩ ∈ GT := gs_18 (q := (⟨"CarHouseModel$Troubles", "store", "(I)V"⟩, 26)) (List.mem_of_getElem? (i := 13) rfl)
theorem sl_286 : Cond.selects "CarHouseModel$Troubles" ⟨"CarHouseModel$Troubles", "shoot", "(II)V"⟩ ⟨"CarHouseModel$Troubles", "shoot", "(II)V"⟩ ∈ GT := gs_18 (q := (⟨"CarHouseModel$Troubles", "shoot", "(II)V"⟩, 26)) (List.mem_of_getElem? (i := 14) rfl)
theorem sl_287 : Cond.selects "CarHouseModel$Troubles" ⟨"CarHouseModel$Troubles", "many", "(I)I"⟩ ⟨"CarHouseModel$Troubles", "many", "(I)I"⟩ ∈ GT := gs_18 (q := (⟨"CarHouseModel$Troubles", "many", "(I)I"⟩, 26)) (List.mem_of_getElem? (i := 15) rfl)
theorem sl_288 : Cond.selects "CarHouseModel$Troubles" ⟨"CarHouseModel$Troubles", "entries", "()I"⟩ ⟨"CarHouseModel$Troubles", "entries", "()I"⟩ ∈ GT := gs_19 (q := (⟨"CarHouseModel$Troubles", "entries", "()I"⟩, 26)) (List.mem_of_getElem? (i := 0) rfl)
theorem sl_289 : Cond.selects "CarHouseModel$Troubles" ⟨"CarHouseModel$Troubles", "goes", "(I)I"⟩ ⟨"CarHouseModel$Troubles", "goes", "(I)I"⟩ ∈ GT := gs_19 (q := (⟨"CarHouseModel$Troubles", "goes", "(I)I"⟩, 26)) (List.mem_of_getElem? (i := 1) rfl)
theorem sl_290 : Cond.selects "CarHouseModel" ⟨"CarHouseModel", "valueOf", "(I)J"⟩ ⟨"CarHouseModel", "valueOf", "(I)J"⟩ ∈ GT := gs_19 (q := (⟨"CarHouseModel", "valueOf", "(I)J"⟩, 112)) (List.mem_of_getElem? (i := 2) rfl)
theorem sl_291 : Cond.selects "CarHouseModel" ⟨"CarHouseModel", "arrive", "(I)V"⟩ ⟨"CarHouseModel", "arrive", "(I)V"⟩ ∈ GT := gs_19 (q := (⟨"CarHouseModel", "arrive", "(I)V"⟩, 112)) (List.mem_of_getElem? (i := 3) rfl)
theorem sl_292 : Cond.selects "CarHouseModel$Transfer" ⟨"CarHouseModel$Transfer", "takeFlow", "(I)I"⟩ ⟨"CarHouseModel$Transfer", "takeFlow", "(I)I"⟩ ∈ GT := gs_19 (q := (⟨"CarHouseModel$Transfer", "takeFlow", "(I)I"⟩, 43)) (List.mem_of_getElem? (i := 4) rfl)
theorem sl_293 : Cond.selects "CarHouseModel$Transfer" ⟨"CarHouseModel$Transfer", "endSender", "(II)V"⟩ ⟨"CarHouseModel$Transfer", "endSender", "(II)V"⟩ ∈ GT := gs_19 (q := (⟨"CarHouseModel$Transfer", "endSender", "(II)V"⟩, 43)) (List.mem_of_getElem? (i := 5) rfl)
theorem sl_294 : Cond.selects "CarHouseModel$Transfer" ⟨"CarHouseModel$Transfer", "take", "(I)I"⟩ ⟨"CarHouseModel$Transfer", "take", "(I)I"⟩ ∈ GT := gs_19 (q := (⟨"CarHouseModel$Transfer", "take", "(I)I"⟩, 43)) (List.mem_of_getElem? (i := 6) rfl)
theorem sl_295 : Cond.selects "CarHouseModel$Transfer" ⟨"CarHouseModel$Transfer", "takeNext", "(II)V"⟩ ⟨"CarHouseModel$Transfer", "takeNext", "(II)V"⟩ ∈ GT := gs_19 (q := (⟨"CarHouseModel$Transfer", "takeNext", "(II)V"⟩, 43)) (List.mem_of_getElem? (i := 7) rfl)
theorem sl_296 : Cond.selects "CarHouseModel$Transfer" ⟨"CarHouseModel$Transfer", "endReceiver", "(II)V"⟩ ⟨"CarHouseModel$Transfer", "endReceiver", "(II)V"⟩ ∈ GT := gs_19 (q := (⟨"CarHouseModel$Transfer", "endReceiver", "(II)V"⟩, 43)) (List.mem_of_getElem? (i := 8) rfl)
theorem sl_297 : Cond.selects "CarHouseModel$Transfer" ⟨"CarHouseModel$Transfer", "put", "(II)V"⟩ ⟨"CarHouseModel$Transfer", "put", "(II)V"⟩ ∈ GT := gs_19 (q := (⟨"CarHouseModel$Transfer", "put", "(II)V"⟩, 43)) (List.mem_of_getElem? (i := 9) rfl)
theorem sl_298 : Cond.selects "CarHouseModel$Transfer" ⟨"CarHouseModel$Transfer", "whole", "(I)V"⟩ ⟨"CarHouseModel$Transfer", "whole", "(I)V"⟩ ∈ GT := gs_19 (q := (⟨"CarHouseModel$Transfer", "whole", "(I)V"⟩, 43)) (List.mem_of_getElem? (i := 10) rfl)
theorem sl_299 : Cond.selects "CarHouseModel$Transfer" ⟨"CarHouseModel$Transfer", "answer", "(I)V"⟩ ⟨"CarHouseModel$Transfer", "answer", "(I)V"⟩ ∈ GT := gs_19 (q := (⟨"CarHouseModel$Transfer", "answer", "(I)V"⟩, 43)) (List.mem_of_getElem? (i := 11) rfl)
theorem sl_300 : Cond.selects "CarHouseModel$Transfer" ⟨"CarHouseModel$Transfer", "make", "(IIIII)I"⟩ ⟨"CarHouseModel$Transfer", "make", "(IIIII)I"⟩ ∈ GT := gs_19 (q := (⟨"CarHouseModel$Transfer", "make", "(IIIII)I"⟩, 43)) (List.mem_of_getElem? (i := 12) rfl)
theorem sl_301 : Cond.selects "CarHouseModel" ⟨"CarHouseModel", "serve", "(II)V"⟩ ⟨"CarHouseModel", "serve", "(II)V"⟩ ∈ GT := gs_19 (q := (⟨"CarHouseModel", "serve", "(II)V"⟩, 112)) (List.mem_of_getElem? (i := 13) rfl)
theorem sl_302 : Cond.selects "CarHouseModel" ⟨"CarHouseModel", "no", "(I)V"⟩ ⟨"CarHouseModel", "no", "(I)V"⟩ ∈ GT := gs_19 (q := (⟨"CarHouseModel", "no", "(I)V"⟩, 112)) (List.mem_of_getElem? (i := 14) rfl)
theorem sl_303 : Cond.selects "CarHouseModel" ⟨"CarHouseModel", "serveSession", "(I)V"⟩ ⟨"CarHouseModel", "serveSession", "(I)V"⟩ ∈ GT := gs_19 (q := (⟨"CarHouseModel", "serveSession", "(I)V"⟩, 112)) (List.mem_of_getElem? (i := 15) rfl)
theorem sl_304 : Cond.selects "CarHouseModel" ⟨"CarHouseModel", "serveRead", "(I)V"⟩ ⟨"CarHouseModel", "serveRead", "(I)V"⟩ ∈ GT := gs_20 (q := (⟨"CarHouseModel", "serveRead", "(I)V"⟩, 112)) (List.mem_of_getElem? (i := 0) rfl)
theorem sl_305 : Cond.selects "CarHouseModel" ⟨"CarHouseModel", "isThere", "(I)Z"⟩ ⟨"CarHouseModel", "isThere", "(I)Z"⟩ ∈ GT := gs_20 (q := (⟨"CarHouseModel", "isThere", "(I)Z"⟩, 112)) (List.mem_of_getElem? (i := 1) rfl)
theorem sl_306 : Cond.selects "CarHouseModel" ⟨"CarHouseModel", "serveWrite", "(I)V"⟩ ⟨"CarHouseModel", "serveWrite", "(I)V"⟩ ∈ GT := gs_20 (q := (⟨"CarHouseModel", "serveWrite", "(I)V"⟩, 112)) (List.mem_of_getElem? (i := 2) rfl)
theorem sl_307 : Cond.selects "CarHouseModel" ⟨"CarHouseModel", "serveTroubles", "()V"⟩ ⟨"CarHouseModel", "serveTroubles", "()V"⟩ ∈ GT := gs_20 (q := (⟨"CarHouseModel", "serveTroubles", "()V"⟩, 112)) (List.mem_of_getElem? (i := 3) rfl)
theorem sl_308 : Cond.selects "CarHouseModel" ⟨"CarHouseModel", "serveClear", "()V"⟩ ⟨"CarHouseModel", "serveClear", "()V"⟩ ∈ GT := gs_20 (q := (⟨"CarHouseModel", "serveClear", "()V"⟩, 112)) (List.mem_of_getElem? (i := 4) rfl)
theorem sl_309 : Cond.selects "CarHouseModel" ⟨"CarHouseModel", "serveSeed", "(I)V"⟩ ⟨"CarHouseModel", "serveSeed", "(I)V"⟩ ∈ GT := gs_20 (q := (⟨"CarHouseModel", "serveSeed", "(I)V"⟩, 112)) (List.mem_of_getElem? (i := 5) rfl)
theorem sl_310 : Cond.selects "CarHouseModel" ⟨"CarHouseModel", "serveKey", "(I)V"⟩ ⟨"CarHouseModel", "serveKey", "(I)V"⟩ ∈ GT := gs_20 (q := (⟨"CarHouseModel", "serveKey", "(I)V"⟩, 112)) (List.mem_of_getElem? (i := 6) rfl)
theorem sl_311 : Cond.selects "CarHouseModel" ⟨"CarHouseModel", "say", "(IZ)V"⟩ ⟨"CarHouseModel", "say", "(IZ)V"⟩ ∈ GT := gs_20 (q := (⟨"CarHouseModel", "say", "(IZ)V"⟩, 112)) (List.mem_of_getElem? (i := 7) rfl)
theorem sl_312 : Cond.selects "CarHouseModel$Transfer" ⟨"CarHouseModel$Transfer", "size", "(I)I"⟩ ⟨"CarHouseModel$Transfer", "size", "(I)I"⟩ ∈ GT := gs_20 (q := (⟨"CarHouseModel$Transfer", "size", "(I)I"⟩, 43)) (List.mem_of_getElem? (i := 8) rfl)
theorem sl_313 : Cond.selects "CarHouseModel" ⟨"CarHouseModel", "taskDone", "(I)V"⟩ ⟨"CarHouseModel", "taskDone", "(I)V"⟩ ∈ GT := gs_20 (q := (⟨"CarHouseModel", "taskDone", "(I)V"⟩, 112)) (List.mem_of_getElem? (i := 9) rfl)
theorem sl_314 : Cond.selects "CarHouseModel$Chart" ⟨"CarHouseModel$Chart", "child", "(IZ)I"⟩ ⟨"CarHouseModel$Chart", "child", "(IZ)I"⟩ ∈ GT := gs_20 (q := (⟨"CarHouseModel$Chart", "child", "(IZ)I"⟩, 42)) (List.mem_of_getElem? (i := 10) rfl)
theorem sl_315 : Cond.selects "CarHouseModel$Chart" ⟨"CarHouseModel$Chart", "enter", "(IIJ)V"⟩ ⟨"CarHouseModel$Chart", "enter", "(IIJ)V"⟩ ∈ GT := gs_20 (q := (⟨"CarHouseModel$Chart", "enter", "(IIJ)V"⟩, 42)) (List.mem_of_getElem? (i := 11) rfl)
theorem sl_316 : Cond.selects "CarHouseModel$Chart" ⟨"CarHouseModel$Chart", "saysTarget", "(II)Z"⟩ ⟨"CarHouseModel$Chart", "saysTarget", "(II)Z"⟩ ∈ GT := gs_20 (q := (⟨"CarHouseModel$Chart", "saysTarget", "(II)Z"⟩, 42)) (List.mem_of_getElem? (i := 12) rfl)
theorem sl_317 : Cond.selects "CarHouseModel$Chart" ⟨"CarHouseModel$Chart", "aim", "(II)V"⟩ ⟨"CarHouseModel$Chart", "aim", "(II)V"⟩ ∈ GT := gs_20 (q := (⟨"CarHouseModel$Chart", "aim", "(II)V"⟩, 42)) (List.mem_of_getElem? (i := 13) rfl)
theorem sl_318 : Cond.selects "CarHouseModel$Chart" ⟨"CarHouseModel$Chart", "second", "(I)Z"⟩ ⟨"CarHouseModel$Chart", "second", "(I)Z"⟩ ∈ GT := gs_20 (q := (⟨"CarHouseModel$Chart", "second", "(I)Z"⟩, 42)) (List.mem_of_getElem? (i := 14) rfl)
theorem sl_319 : Cond.selects "CarHouseModel$Chart" ⟨"CarHouseModel$Chart", "fill", "(II)V"⟩ ⟨"CarHouseModel$Chart", "fill", "(II)V"⟩ ∈ GT := gs_20 (q := (⟨"CarHouseModel$Chart", "fill", "(II)V"⟩, 42)) (List.mem_of_getElem? (i := 15) rfl)
theorem sl_320 : Cond.selects "CarHouseModel$Chart" ⟨"CarHouseModel$Chart", "note", "(IIJ)V"⟩ ⟨"CarHouseModel$Chart", "note", "(IIJ)V"⟩ ∈ GT := gs_21 (q := (⟨"CarHouseModel$Chart", "note", "(IIJ)V"⟩, 42)) (List.mem_of_getElem? (i := 0) rfl)
theorem sl_321 : Cond.selects "CarHouseModel$Chart" ⟨"CarHouseModel$Chart", "doActs", "(II)V"⟩ ⟨"CarHouseModel$Chart", "doActs", "(II)V"⟩ ∈ GT := gs_21 (q := (⟨"CarHouseModel$Chart", "doActs", "(II)V"⟩, 42)) (List.mem_of_getElem? (i := 1) rfl)
theorem sl_322 : Cond.selects "CarHouseModel$Chart" ⟨"CarHouseModel$Chart", "chain", "(J)I"⟩ ⟨"CarHouseModel$Chart", "chain", "(J)I"⟩ ∈ GT := gs_21 (q := (⟨"CarHouseModel$Chart", "chain", "(J)I"⟩, 42)) (List.mem_of_getElem? (i := 2) rfl)
theorem sl_323 : Cond.selects "CarHouseModel$Chart" ⟨"CarHouseModel$Chart", "choose", "(I)I"⟩ ⟨"CarHouseModel$Chart", "choose", "(I)I"⟩ ∈ GT := gs_21 (q := (⟨"CarHouseModel$Chart", "choose", "(I)I"⟩, 42)) (List.mem_of_getElem? (i := 3) rfl)
theorem sl_324 : Cond.selects "CarHouseModel$Chart" ⟨"CarHouseModel$Chart", "waitsFor", "(I)Z"⟩ ⟨"CarHouseModel$Chart", "waitsFor", "(I)Z"⟩ ∈ GT := gs_21 (q := (⟨"CarHouseModel$Chart", "waitsFor", "(I)Z"⟩, 42)) (List.mem_of_getElem? (i := 4) rfl)
theorem sl_325 : Cond.selects "CarHouseModel$Chart" ⟨"CarHouseModel$Chart", "saysSource", "(II)Z"⟩ ⟨"CarHouseModel$Chart", "saysSource", "(II)Z"⟩ ∈ GT := gs_21 (q := (⟨"CarHouseModel$Chart", "saysSource", "(II)Z"⟩, 42)) (List.mem_of_getElem? (i := 5) rfl)
theorem sl_326 : Cond.selects "CarHouseModel$Chart" ⟨"CarHouseModel$Chart", "holds", "(I)Z"⟩ ⟨"CarHouseModel$Chart", "holds", "(I)Z"⟩ ∈ GT := gs_21 (q := (⟨"CarHouseModel$Chart", "holds", "(I)Z"⟩, 42)) (List.mem_of_getElem? (i := 6) rfl)
theorem sl_327 : Cond.selects "CarHouseModel$Chart" ⟨"CarHouseModel$Chart", "domain", "(I)I"⟩ ⟨"CarHouseModel$Chart", "domain", "(I)I"⟩ ∈ GT := gs_21 (q := (⟨"CarHouseModel$Chart", "domain", "(I)I"⟩, 42)) (List.mem_of_getElem? (i := 7) rfl)
theorem sl_328 : Cond.selects "CarHouseModel$Chart" ⟨"CarHouseModel$Chart", "inside", "(II)Z"⟩ ⟨"CarHouseModel$Chart", "inside", "(II)Z"⟩ ∈ GT := gs_21 (q := (⟨"CarHouseModel$Chart", "inside", "(II)Z"⟩, 42)) (List.mem_of_getElem? (i := 8) rfl)
theorem sl_329 : Cond.selects "CarHouseModel$Chart" ⟨"CarHouseModel$Chart", "findExits", "(I)V"⟩ ⟨"CarHouseModel$Chart", "findExits", "(I)V"⟩ ∈ GT := gs_21 (q := (⟨"CarHouseModel$Chart", "findExits", "(I)V"⟩, 42)) (List.mem_of_getElem? (i := 9) rfl)
theorem sl_330 : Cond.selects "CarHouseModel$Chart" ⟨"CarHouseModel$Chart", "step", "(J)I"⟩ ⟨"CarHouseModel$Chart", "step", "(J)I"⟩ ∈ GT := gs_21 (q := (⟨"CarHouseModel$Chart", "step", "(J)I"⟩, 42)) (List.mem_of_getElem? (i := 10) rfl)
theorem sl_331 : Cond.selects "CarHouseModel$Chart" ⟨"CarHouseModel$Chart", "take", "(IJ)V"⟩ ⟨"CarHouseModel$Chart", "take", "(IJ)V"⟩ ∈ GT := gs_21 (q := (⟨"CarHouseModel$Chart", "take", "(IJ)V"⟩, 42)) (List.mem_of_getElem? (i := 11) rfl)
theorem sl_332 : Cond.selects "CarHouseModel$Chart" ⟨"CarHouseModel$Chart", "due", "(J)I"⟩ ⟨"CarHouseModel$Chart", "due", "(J)I"⟩ ∈ GT := gs_21 (q := (⟨"CarHouseModel$Chart", "due", "(J)I"⟩, 42)) (List.mem_of_getElem? (i := 12) rfl)
theorem sl_333 : Cond.selects "CarHouseModel" ⟨"CarHouseModel", "transferred", "()V"⟩ ⟨"CarHouseModel", "transferred", "()V"⟩ ∈ GT := gs_21 (q := (⟨"CarHouseModel", "transferred", "()V"⟩, 112)) (List.mem_of_getElem? (i := 13) rfl)
theorem sl_334 : Cond.selects "CarHouseModel$Transfer" ⟨"CarHouseModel$Transfer", "sum", "()I"⟩ ⟨"CarHouseModel$Transfer", "sum", "()I"⟩ ∈ GT := gs_21 (q := (⟨"CarHouseModel$Transfer", "sum", "()I"⟩, 43)) (List.mem_of_getElem? (i := 14) rfl)
theorem sl_335 : Cond.selects "CarHouseModel$Transfer" ⟨"CarHouseModel$Transfer", "start", "(I)V"⟩ ⟨"CarHouseModel$Transfer", "start", "(I)V"⟩ ∈ GT := gs_21 (q := (⟨"CarHouseModel$Transfer", "start", "(I)V"⟩, 43)) (List.mem_of_getElem? (i := 15) rfl)
theorem sl_336 : Cond.selects "CarHouseModel$Transfer" ⟨"CarHouseModel$Transfer", "fill", "(IIII)V"⟩ ⟨"CarHouseModel$Transfer", "fill", "(IIII)V"⟩ ∈ GT := gs_22 (q := (⟨"CarHouseModel$Transfer", "fill", "(IIII)V"⟩, 43)) (List.mem_of_getElem? (i := 0) rfl)
theorem sl_337 : Cond.selects "CarHouseModel$Transfer" ⟨"CarHouseModel$Transfer", "moment", "()V"⟩ ⟨"CarHouseModel$Transfer", "moment", "()V"⟩ ∈ GT := gs_22 (q := (⟨"CarHouseModel$Transfer", "moment", "()V"⟩, 43)) (List.mem_of_getElem? (i := 1) rfl)
theorem sl_338 : Cond.selects "CarHouseModel$Transfer" ⟨"CarHouseModel$Transfer", "senderDue", "(I)Z"⟩ ⟨"CarHouseModel$Transfer", "senderDue", "(I)Z"⟩ ∈ GT := gs_22 (q := (⟨"CarHouseModel$Transfer", "senderDue", "(I)Z"⟩, 43)) (List.mem_of_getElem? (i := 2) rfl)
theorem sl_339 : Cond.selects "CarHouseModel$Transfer" ⟨"CarHouseModel$Transfer", "sendNext", "(I)V"⟩ ⟨"CarHouseModel$Transfer", "sendNext", "(I)V"⟩ ∈ GT := gs_22 (q := (⟨"CarHouseModel$Transfer", "sendNext", "(I)V"⟩, 43)) (List.mem_of_getElem? (i := 3) rfl)
theorem sl_340 : Cond.selects "CarHouseModel" ⟨"CarHouseModel", "noController", "(I)Z"⟩ ⟨"CarHouseModel", "noController", "(I)Z"⟩ ∈ GT := gs_22 (q := (⟨"CarHouseModel", "noController", "(I)Z"⟩, 112)) (List.mem_of_getElem? (i := 4) rfl)
theorem sl_341 : Cond.selects "CarHouseModel" ⟨"CarHouseModel", "noChart", "(I)Z"⟩ ⟨"CarHouseModel", "noChart", "(I)Z"⟩ ∈ GT := gs_22 (q := (⟨"CarHouseModel", "noChart", "(I)Z"⟩, 112)) (List.mem_of_getElem? (i := 5) rfl)
