theorem kw_97 : Cond.arrayClass Jvm.ClassFile.FieldType.int ∈ xw_G := xw_at 97 (by decide +kernel) (by decide +kernel)
theorem kw_48 : Cond.initialized "java/lang/Math" ∈ xw_G := xw_at 48 (by decide +kernel) (by decide +kernel)
theorem kw_50 : Cond.initialized "java/lang/System" ∈ xw_G := xw_at 50 (by decide +kernel) (by decide +kernel)
theorem kw_104 : Cond.fieldLink R_Ld 9 R_Ld "row" "[I" ∈ xw_G := xw_at 104 (by decide +kernel) (by decide +kernel)
theorem kw_106 : Cond.fieldLink R_Ld 15 R_Ld "size" "I" ∈ xw_G := xw_at 106 (by decide +kernel) (by decide +kernel)
theorem kw_319 : Cond.code y_Ja_copyOf prog_14_method_123_code 3 (Option.some (Jvm.ClassFile.FieldType.array Jvm.ClassFile.FieldType.int)) ∈ xw_G := xw_at 319 (by decide +kernel) (by decide +kernel)
theorem kw_317 : Cond.methodLink R_Ts 186 y_Ja_copyOf ∈ xw_G := xw_at 317 (by decide +kernel) (by decide +kernel)
theorem kw_318 : Cond.static y_Ja_copyOf ∈ xw_G := xw_at 318 (by decide +kernel) (by decide +kernel)
theorem kw_49 : Cond.initialized R_Ja ∈ xw_G := xw_at 49 (by decide +kernel) (by decide +kernel)
theorem kw_313 : Cond.code y_Ts_withRoom prog_1_method_27_code 2 (Option.some (Jvm.ClassFile.FieldType.array Jvm.ClassFile.FieldType.int)) ∈ xw_G := xw_at 313 (by decide +kernel) (by decide +kernel)
theorem kw_39 : Cond.initialized R_Ts ∈ xw_G := xw_at 39 (by decide +kernel) (by decide +kernel)
theorem kw_312 : Cond.static y_Ts_withRoom ∈ xw_G := xw_at 312 (by decide +kernel) (by decide +kernel)
theorem kw_213 : Cond.fieldLink R_Pr 9 R_Pr "lefts" "[I" ∈ xw_G := xw_at 213 (by decide +kernel) (by decide +kernel)
theorem kw_216 : Cond.fieldLink R_Pr 15 R_Pr "rights" "[I" ∈ xw_G := xw_at 216 (by decide +kernel) (by decide +kernel)
theorem kw_219 : Cond.fieldLink R_Pr 18 R_Pr "size" "I" ∈ xw_G := xw_at 219 (by decide +kernel) (by decide +kernel)
theorem kw_424 : Cond.code y_Pr_append prog_6_method_3_code 3 (Option.none : Option Jvm.ClassFile.FieldType) ∈ xw_G := xw_at 424 (by decide +kernel) (by decide +kernel)
theorem kw_421 : Cond.methodLink R_Pr 22 y_Pr_append ∈ xw_G := xw_at 421 (by decide +kernel) (by decide +kernel)
theorem kw_422 : Cond.instanceMethod y_Pr_append ∈ xw_G := xw_at 422 (by decide +kernel) (by decide +kernel)
theorem kw_423 : Cond.selects R_Pr y_Pr_append y_Pr_append ∈ xw_G := xw_at 423 (by decide +kernel) (by decide +kernel)
theorem kw_45 : Cond.initialized R_Pr ∈ xw_G := xw_at 45 (by decide +kernel) (by decide +kernel)
theorem kw_186 : Cond.fieldLink R_Pu 9 R_Pu "features" "[I" ∈ xw_G := xw_at 186 (by decide +kernel) (by decide +kernel)
theorem kw_188 : Cond.fieldLink R_Pu 15 R_Pu "parts" "[I" ∈ xw_G := xw_at 188 (by decide +kernel) (by decide +kernel)
theorem kw_190 : Cond.fieldLink R_Pu 18 R_Pu "size" "I" ∈ xw_G := xw_at 190 (by decide +kernel) (by decide +kernel)
theorem kw_378 : Cond.code y_Ts_rank prog_1_method_26_code 1 (Option.some Jvm.ClassFile.FieldType.int) ∈ xw_G := xw_at 378 (by decide +kernel) (by decide +kernel)
theorem kw_377 : Cond.static y_Ts_rank ∈ xw_G := xw_at 377 (by decide +kernel) (by decide +kernel)
theorem kw_71 : Cond.fieldLink R_Fi 9 R_Fi "features" "[I" ∈ xw_G := xw_at 71 (by decide +kernel) (by decide +kernel)
theorem kw_74 : Cond.fieldLink R_Fi 15 R_Fi "parts" "[I" ∈ xw_G := xw_at 74 (by decide +kernel) (by decide +kernel)
theorem kw_78 : Cond.fieldLink R_Fi 18 R_Fi "used" "I" ∈ xw_G := xw_at 78 (by decide +kernel) (by decide +kernel)
theorem kw_81 : Cond.fieldLink R_Fi 22 R_Fi "nextFeatures" "[I" ∈ xw_G := xw_at 81 (by decide +kernel) (by decide +kernel)
theorem kw_82 : Cond.fieldLink R_Fi 25 R_Fi "nextParts" "[I" ∈ xw_G := xw_at 82 (by decide +kernel) (by decide +kernel)
theorem kw_83 : Cond.fieldLink R_Fi 28 R_Fi "nextUsed" "I" ∈ xw_G := xw_at 83 (by decide +kernel) (by decide +kernel)
theorem kw_114 : Cond.fieldLink R_No 9 R_No "kinds" "[I" ∈ xw_G := xw_at 114 (by decide +kernel) (by decide +kernel)
theorem kw_118 : Cond.fieldLink R_No 15 R_No "values" "[I" ∈ xw_G := xw_at 118 (by decide +kernel) (by decide +kernel)
theorem kw_120 : Cond.fieldLink R_No 18 R_No "starts" "[I" ∈ xw_G := xw_at 120 (by decide +kernel) (by decide +kernel)
theorem kw_123 : Cond.fieldLink R_No 21 R_No "sizes" "[I" ∈ xw_G := xw_at 123 (by decide +kernel) (by decide +kernel)
theorem kw_127 : Cond.fieldLink R_No 24 R_No "lead" "[I" ∈ xw_G := xw_at 127 (by decide +kernel) (by decide +kernel)
theorem kw_131 : Cond.fieldLink R_No 27 R_No "bodies" "[I" ∈ xw_G := xw_at 131 (by decide +kernel) (by decide +kernel)
theorem kw_135 : Cond.fieldLink R_No 30 R_No "needed" "[I" ∈ xw_G := xw_at 135 (by decide +kernel) (by decide +kernel)
theorem kw_138 : Cond.fieldLink R_No 33 R_No "marked" "[I" ∈ xw_G := xw_at 138 (by decide +kernel) (by decide +kernel)
theorem kw_139 : Cond.fieldLink R_No 36 R_No "top" "I" ∈ xw_G := xw_at 139 (by decide +kernel) (by decide +kernel)
theorem kw_142 : Cond.fieldLink R_No 40 R_No "lowest" "I" ∈ xw_G := xw_at 142 (by decide +kernel) (by decide +kernel)
theorem kw_143 : Cond.fieldLink R_No 43 R_No "alive" "I" ∈ xw_G := xw_at 143 (by decide +kernel) (by decide +kernel)
theorem kw_145 : Cond.fieldLink R_No 46 R_No "marks" "I" ∈ xw_G := xw_at 145 (by decide +kernel) (by decide +kernel)
theorem kw_65 : Cond.classLink R_No 49 R_Fi ∈ xw_G := xw_at 65 (by decide +kernel) (by decide +kernel)
theorem kw_66 : Cond.instantiable R_Fi 6 ∈ xw_G := xw_at 66 (by decide +kernel) (by decide +kernel)
theorem kw_41 : Cond.initialized R_Fi ∈ xw_G := xw_at 41 (by decide +kernel) (by decide +kernel)
theorem kw_69 : Cond.code y_Fi_init prog_2_method_1_code 1 (Option.none : Option Jvm.ClassFile.FieldType) ∈ xw_G := xw_at 69 (by decide +kernel) (by decide +kernel)
theorem kw_67 : Cond.methodLink R_No 51 y_Fi_init ∈ xw_G := xw_at 67 (by decide +kernel) (by decide +kernel)
theorem kw_68 : Cond.instanceMethod y_Fi_init ∈ xw_G := xw_at 68 (by decide +kernel) (by decide +kernel)
theorem kw_147 : Cond.fieldLink R_No 52 R_No "fields" "LTreeStore$Fields;" ∈ xw_G := xw_at 147 (by decide +kernel) (by decide +kernel)
theorem kw_98 : Cond.classLink R_No 56 R_Ld ∈ xw_G := xw_at 98 (by decide +kernel) (by decide +kernel)
theorem kw_99 : Cond.instantiable R_Ld 2 ∈ xw_G := xw_at 99 (by decide +kernel) (by decide +kernel)
theorem kw_42 : Cond.initialized R_Ld ∈ xw_G := xw_at 42 (by decide +kernel) (by decide +kernel)
theorem kw_102 : Cond.code y_Ld_init prog_3_method_1_code 1 (Option.none : Option Jvm.ClassFile.FieldType) ∈ xw_G := xw_at 102 (by decide +kernel) (by decide +kernel)
theorem kw_100 : Cond.methodLink R_No 58 y_Ld_init ∈ xw_G := xw_at 100 (by decide +kernel) (by decide +kernel)
theorem kw_101 : Cond.instanceMethod y_Ld_init ∈ xw_G := xw_at 101 (by decide +kernel) (by decide +kernel)
theorem kw_150 : Cond.fieldLink R_No 59 R_No "reached" "LTreeStore$Leaders;" ∈ xw_G := xw_at 150 (by decide +kernel) (by decide +kernel)
theorem kw_487 : Cond.code y_No_kindOf prog_5_method_3_code 2 (Option.some Jvm.ClassFile.FieldType.int) ∈ xw_G := xw_at 487 (by decide +kernel) (by decide +kernel)
theorem kw_484 : Cond.methodLink R_No 63 y_No_kindOf ∈ xw_G := xw_at 484 (by decide +kernel) (by decide +kernel)
theorem kw_485 : Cond.instanceMethod y_No_kindOf ∈ xw_G := xw_at 485 (by decide +kernel) (by decide +kernel)
theorem kw_486 : Cond.selects R_No y_No_kindOf y_No_kindOf ∈ xw_G := xw_at 486 (by decide +kernel) (by decide +kernel)
theorem kw_40 : Cond.initialized R_No ∈ xw_G := xw_at 40 (by decide +kernel) (by decide +kernel)
theorem kw_339 : Cond.code y_Ts_wipe prog_1_method_28_code 3 (Option.none : Option Jvm.ClassFile.FieldType) ∈ xw_G := xw_at 339 (by decide +kernel) (by decide +kernel)
theorem kw_338 : Cond.static y_Ts_wipe ∈ xw_G := xw_at 338 (by decide +kernel) (by decide +kernel)
theorem kw_310 : Cond.code y_No_makeRoom prog_5_method_9_code 2 (Option.none : Option Jvm.ClassFile.FieldType) ∈ xw_G := xw_at 310 (by decide +kernel) (by decide +kernel)
theorem kw_307 : Cond.methodLink R_No 89 y_No_makeRoom ∈ xw_G := xw_at 307 (by decide +kernel) (by decide +kernel)
theorem kw_309 : Cond.instanceMethod y_No_makeRoom ∈ xw_G := xw_at 309 (by decide +kernel) (by decide +kernel)
theorem kw_2 : Cond.selects R_No y_No_makeRoom y_No_makeRoom ∈ xw_G := xw_at 2 (by decide +kernel) (by decide +kernel)
theorem kw_336 : Cond.code y_No_dropMarks prog_5_method_16_code 1 (Option.none : Option Jvm.ClassFile.FieldType) ∈ xw_G := xw_at 336 (by decide +kernel) (by decide +kernel)
theorem kw_333 : Cond.methodLink R_No 93 y_No_dropMarks ∈ xw_G := xw_at 333 (by decide +kernel) (by decide +kernel)
theorem kw_334 : Cond.instanceMethod y_No_dropMarks ∈ xw_G := xw_at 334 (by decide +kernel) (by decide +kernel)
theorem kw_335 : Cond.selects R_No y_No_dropMarks y_No_dropMarks ∈ xw_G := xw_at 335 (by decide +kernel) (by decide +kernel)
theorem kw_343 : Cond.code y_No_vacate prog_5_method_10_code 2 (Option.none : Option Jvm.ClassFile.FieldType) ∈ xw_G := xw_at 343 (by decide +kernel) (by decide +kernel)
theorem kw_340 : Cond.methodLink R_No 96 y_No_vacate ∈ xw_G := xw_at 340 (by decide +kernel) (by decide +kernel)
theorem kw_342 : Cond.instanceMethod y_No_vacate ∈ xw_G := xw_at 342 (by decide +kernel) (by decide +kernel)
theorem kw_3 : Cond.selects R_No y_No_vacate y_No_vacate ∈ xw_G := xw_at 3 (by decide +kernel) (by decide +kernel)
theorem kw_298 : Cond.constant R_No 67 32768 ∈ xw_G := xw_at 298 (by decide +kernel) (by decide +kernel)
theorem kw_302 : Cond.code y_No_lowestFree prog_5_method_7_code 2 (Option.some Jvm.ClassFile.FieldType.int) ∈ xw_G := xw_at 302 (by decide +kernel) (by decide +kernel)
theorem kw_299 : Cond.methodLink R_No 68 y_No_lowestFree ∈ xw_G := xw_at 299 (by decide +kernel) (by decide +kernel)
theorem kw_301 : Cond.instanceMethod y_No_lowestFree ∈ xw_G := xw_at 301 (by decide +kernel) (by decide +kernel)
theorem kw_0 : Cond.selects R_No y_No_lowestFree y_No_lowestFree ∈ xw_G := xw_at 0 (by decide +kernel) (by decide +kernel)
theorem kw_306 : Cond.code y_No_settleAt prog_5_method_8_code 4 (Option.some Jvm.ClassFile.FieldType.int) ∈ xw_G := xw_at 306 (by decide +kernel) (by decide +kernel)
theorem kw_303 : Cond.methodLink R_No 72 y_No_settleAt ∈ xw_G := xw_at 303 (by decide +kernel) (by decide +kernel)
theorem kw_305 : Cond.instanceMethod y_No_settleAt ∈ xw_G := xw_at 305 (by decide +kernel) (by decide +kernel)
theorem kw_1 : Cond.selects R_No y_No_settleAt y_No_settleAt ∈ xw_G := xw_at 1 (by decide +kernel) (by decide +kernel)
theorem kw_387 : Cond.constant R_No 84 65536 ∈ xw_G := xw_at 387 (by decide +kernel) (by decide +kernel)
theorem kw_391 : Cond.code y_Fi_takeIn prog_2_method_2_code 3 (Option.some Jvm.ClassFile.FieldType.int) ∈ xw_G := xw_at 391 (by decide +kernel) (by decide +kernel)
theorem kw_388 : Cond.methodLink R_No 85 y_Fi_takeIn ∈ xw_G := xw_at 388 (by decide +kernel) (by decide +kernel)
theorem kw_389 : Cond.instanceMethod y_Fi_takeIn ∈ xw_G := xw_at 389 (by decide +kernel) (by decide +kernel)
theorem kw_390 : Cond.selects R_Fi y_Fi_takeIn y_Fi_takeIn ∈ xw_G := xw_at 390 (by decide +kernel) (by decide +kernel)
theorem kw_363 : Cond.code y_No_has prog_5_method_2_code 2 (Option.some Jvm.ClassFile.FieldType.boolean) ∈ xw_G := xw_at 363 (by decide +kernel) (by decide +kernel)
theorem kw_577 : Cond.methodLink R_No 115 y_No_has ∈ xw_G := xw_at 577 (by decide +kernel) (by decide +kernel)
theorem kw_361 : Cond.instanceMethod y_No_has ∈ xw_G := xw_at 361 (by decide +kernel) (by decide +kernel)
theorem kw_362 : Cond.selects R_No y_No_has y_No_has ∈ xw_G := xw_at 362 (by decide +kernel) (by decide +kernel)
theorem kw_452 : Cond.code y_Ld_append prog_3_method_3_code 2 (Option.none : Option Jvm.ClassFile.FieldType) ∈ xw_G := xw_at 452 (by decide +kernel) (by decide +kernel)
theorem kw_571 : Cond.methodLink R_No 139 y_Ld_append ∈ xw_G := xw_at 571 (by decide +kernel) (by decide +kernel)
theorem kw_450 : Cond.instanceMethod y_Ld_append ∈ xw_G := xw_at 450 (by decide +kernel) (by decide +kernel)
theorem kw_451 : Cond.selects R_Ld y_Ld_append y_Ld_append ∈ xw_G := xw_at 451 (by decide +kernel) (by decide +kernel)
theorem kw_416 : Cond.code y_Ld_empty prog_3_method_2_code 1 (Option.none : Option Jvm.ClassFile.FieldType) ∈ xw_G := xw_at 416 (by decide +kernel) (by decide +kernel)
theorem kw_566 : Cond.methodLink R_No 123 y_Ld_empty ∈ xw_G := xw_at 566 (by decide +kernel) (by decide +kernel)
theorem kw_414 : Cond.instanceMethod y_Ld_empty ∈ xw_G := xw_at 414 (by decide +kernel) (by decide +kernel)
theorem kw_415 : Cond.selects R_Ld y_Ld_empty y_Ld_empty ∈ xw_G := xw_at 415 (by decide +kernel) (by decide +kernel)
theorem kw_570 : Cond.code y_No_markLeader prog_5_method_18_code 2 (Option.none : Option Jvm.ClassFile.FieldType) ∈ xw_G := xw_at 570 (by decide +kernel) (by decide +kernel)
theorem kw_567 : Cond.methodLink R_No 126 y_No_markLeader ∈ xw_G := xw_at 567 (by decide +kernel) (by decide +kernel)
theorem kw_569 : Cond.instanceMethod y_No_markLeader ∈ xw_G := xw_at 569 (by decide +kernel) (by decide +kernel)
theorem kw_12 : Cond.selects R_No y_No_markLeader y_No_markLeader ∈ xw_G := xw_at 12 (by decide +kernel) (by decide +kernel)
theorem kw_510 : Cond.code y_No_partLeader prog_5_method_13_code 2 (Option.some Jvm.ClassFile.FieldType.int) ∈ xw_G := xw_at 510 (by decide +kernel) (by decide +kernel)
theorem kw_572 : Cond.methodLink R_No 133 y_No_partLeader ∈ xw_G := xw_at 572 (by decide +kernel) (by decide +kernel)
theorem kw_508 : Cond.instanceMethod y_No_partLeader ∈ xw_G := xw_at 508 (by decide +kernel) (by decide +kernel)
theorem kw_509 : Cond.selects R_No y_No_partLeader y_No_partLeader ∈ xw_G := xw_at 509 (by decide +kernel) (by decide +kernel)
theorem kw_576 : Cond.code y_No_markAllLed prog_5_method_19_code 2 (Option.none : Option Jvm.ClassFile.FieldType) ∈ xw_G := xw_at 576 (by decide +kernel) (by decide +kernel)
theorem kw_573 : Cond.methodLink R_No 136 y_No_markAllLed ∈ xw_G := xw_at 573 (by decide +kernel) (by decide +kernel)
theorem kw_575 : Cond.instanceMethod y_No_markAllLed ∈ xw_G := xw_at 575 (by decide +kernel) (by decide +kernel)
theorem kw_13 : Cond.selects R_No y_No_markAllLed y_No_markAllLed ∈ xw_G := xw_at 13 (by decide +kernel) (by decide +kernel)
theorem kw_601 : Cond.code y_Fi_moveOver prog_2_method_4_code 6 (Option.some Jvm.ClassFile.FieldType.int) ∈ xw_G := xw_at 601 (by decide +kernel) (by decide +kernel)
theorem kw_598 : Cond.methodLink R_No 157 y_Fi_moveOver ∈ xw_G := xw_at 598 (by decide +kernel) (by decide +kernel)
theorem kw_599 : Cond.instanceMethod y_Fi_moveOver ∈ xw_G := xw_at 599 (by decide +kernel) (by decide +kernel)
theorem kw_600 : Cond.selects R_Fi y_Fi_moveOver y_Fi_moveOver ∈ xw_G := xw_at 600 (by decide +kernel) (by decide +kernel)
theorem kw_593 : Cond.code y_No_staysBehind prog_5_method_21_code 2 (Option.some Jvm.ClassFile.FieldType.boolean) ∈ xw_G := xw_at 593 (by decide +kernel) (by decide +kernel)
theorem kw_590 : Cond.methodLink R_No 145 y_No_staysBehind ∈ xw_G := xw_at 590 (by decide +kernel) (by decide +kernel)
theorem kw_592 : Cond.instanceMethod y_No_staysBehind ∈ xw_G := xw_at 592 (by decide +kernel) (by decide +kernel)
theorem kw_14 : Cond.selects R_No y_No_staysBehind y_No_staysBehind ∈ xw_G := xw_at 14 (by decide +kernel) (by decide +kernel)
theorem kw_589 : Cond.code y_Fi_beginMove prog_2_method_3_code 1 (Option.none : Option Jvm.ClassFile.FieldType) ∈ xw_G := xw_at 589 (by decide +kernel) (by decide +kernel)
theorem kw_586 : Cond.methodLink R_No 142 y_Fi_beginMove ∈ xw_G := xw_at 586 (by decide +kernel) (by decide +kernel)
theorem kw_587 : Cond.instanceMethod y_Fi_beginMove ∈ xw_G := xw_at 587 (by decide +kernel) (by decide +kernel)
theorem kw_588 : Cond.selects R_Fi y_Fi_beginMove y_Fi_beginMove ∈ xw_G := xw_at 588 (by decide +kernel) (by decide +kernel)
theorem kw_597 : Cond.code y_No_takeOnBody prog_5_method_22_code 3 (Option.none : Option Jvm.ClassFile.FieldType) ∈ xw_G := xw_at 597 (by decide +kernel) (by decide +kernel)
theorem kw_594 : Cond.methodLink R_No 148 y_No_takeOnBody ∈ xw_G := xw_at 594 (by decide +kernel) (by decide +kernel)
theorem kw_596 : Cond.instanceMethod y_No_takeOnBody ∈ xw_G := xw_at 596 (by decide +kernel) (by decide +kernel)
theorem kw_15 : Cond.selects R_No y_No_takeOnBody y_No_takeOnBody ∈ xw_G := xw_at 15 (by decide +kernel) (by decide +kernel)
theorem kw_605 : Cond.code y_Fi_endMove prog_2_method_5_code 3 (Option.none : Option Jvm.ClassFile.FieldType) ∈ xw_G := xw_at 605 (by decide +kernel) (by decide +kernel)
theorem kw_602 : Cond.methodLink R_No 151 y_Fi_endMove ∈ xw_G := xw_at 602 (by decide +kernel) (by decide +kernel)
theorem kw_603 : Cond.instanceMethod y_Fi_endMove ∈ xw_G := xw_at 603 (by decide +kernel) (by decide +kernel)
theorem kw_604 : Cond.selects R_Fi y_Fi_endMove y_Fi_endMove ∈ xw_G := xw_at 604 (by decide +kernel) (by decide +kernel)
theorem kw_609 : Cond.code y_No_vacateAllOthers prog_5_method_23_code 3 (Option.none : Option Jvm.ClassFile.FieldType) ∈ xw_G := xw_at 609 (by decide +kernel) (by decide +kernel)
theorem kw_606 : Cond.methodLink R_No 154 y_No_vacateAllOthers ∈ xw_G := xw_at 606 (by decide +kernel) (by decide +kernel)
theorem kw_608 : Cond.instanceMethod y_No_vacateAllOthers ∈ xw_G := xw_at 608 (by decide +kernel) (by decide +kernel)
theorem kw_16 : Cond.selects R_No y_No_vacateAllOthers y_No_vacateAllOthers ∈ xw_G := xw_at 16 (by decide +kernel) (by decide +kernel)
theorem kw_231 : Cond.fieldLink R_Tr 9 R_Tr "nodes" "LTreeStore$Nodes;" ∈ xw_G := xw_at 231 (by decide +kernel) (by decide +kernel)
theorem kw_207 : Cond.classLink R_Tr 15 R_Pr ∈ xw_G := xw_at 207 (by decide +kernel) (by decide +kernel)
theorem kw_208 : Cond.instantiable R_Pr 3 ∈ xw_G := xw_at 208 (by decide +kernel) (by decide +kernel)
theorem kw_211 : Cond.code y_Pr_init prog_6_method_1_code 1 (Option.none : Option Jvm.ClassFile.FieldType) ∈ xw_G := xw_at 211 (by decide +kernel) (by decide +kernel)
theorem kw_209 : Cond.methodLink R_Tr 17 y_Pr_init ∈ xw_G := xw_at 209 (by decide +kernel) (by decide +kernel)
theorem kw_210 : Cond.instanceMethod y_Pr_init ∈ xw_G := xw_at 210 (by decide +kernel) (by decide +kernel)
theorem kw_232 : Cond.fieldLink R_Tr 18 R_Tr "pairs" "LTreeStore$Pairs;" ∈ xw_G := xw_at 232 (by decide +kernel) (by decide +kernel)
theorem kw_229 : Cond.classLink R_Tr 22 R_Ld ∈ xw_G := xw_at 229 (by decide +kernel) (by decide +kernel)
theorem kw_230 : Cond.methodLink R_Tr 24 y_Ld_init ∈ xw_G := xw_at 230 (by decide +kernel) (by decide +kernel)
theorem kw_233 : Cond.fieldLink R_Tr 25 R_Tr "bound" "LTreeStore$Leaders;" ∈ xw_G := xw_at 233 (by decide +kernel) (by decide +kernel)
theorem kw_235 : Cond.fieldLink R_Tr 29 R_Tr "up" "[I" ∈ xw_G := xw_at 235 (by decide +kernel) (by decide +kernel)
theorem kw_236 : Cond.fieldLink R_Tr 33 R_Tr "bodies" "[I" ∈ xw_G := xw_at 236 (by decide +kernel) (by decide +kernel)
theorem kw_237 : Cond.fieldLink R_Tr 36 R_Tr "hit" "[I" ∈ xw_G := xw_at 237 (by decide +kernel) (by decide +kernel)
theorem kw_413 : Cond.methodLink R_Tr 91 y_Ld_empty ∈ xw_G := xw_at 413 (by decide +kernel) (by decide +kernel)
theorem kw_441 : Cond.code y_No_sameShape prog_5_method_14_code 4 (Option.some Jvm.ClassFile.FieldType.boolean) ∈ xw_G := xw_at 441 (by decide +kernel) (by decide +kernel)
theorem kw_438 : Cond.methodLink R_Tr 109 y_No_sameShape ∈ xw_G := xw_at 438 (by decide +kernel) (by decide +kernel)
theorem kw_439 : Cond.instanceMethod y_No_sameShape ∈ xw_G := xw_at 439 (by decide +kernel) (by decide +kernel)
theorem kw_440 : Cond.selects R_No y_No_sameShape y_No_sameShape ∈ xw_G := xw_at 440 (by decide +kernel) (by decide +kernel)
theorem kw_442 : Cond.methodLink R_Tr 127 y_Pr_append ∈ xw_G := xw_at 442 (by decide +kernel) (by decide +kernel)
theorem kw_437 : Cond.code y_Tr_pairParts prog_8_method_5_code 4 (Option.some Jvm.ClassFile.FieldType.boolean) ∈ xw_G := xw_at 437 (by decide +kernel) (by decide +kernel)
theorem kw_434 : Cond.methodLink R_Tr 97 y_Tr_pairParts ∈ xw_G := xw_at 434 (by decide +kernel) (by decide +kernel)
theorem kw_436 : Cond.instanceMethod y_Tr_pairParts ∈ xw_G := xw_at 436 (by decide +kernel) (by decide +kernel)
theorem kw_6 : Cond.selects R_Tr y_Tr_pairParts y_Tr_pairParts ∈ xw_G := xw_at 6 (by decide +kernel) (by decide +kernel)
theorem kw_44 : Cond.initialized R_Tr ∈ xw_G := xw_at 44 (by decide +kernel) (by decide +kernel)
theorem kw_449 : Cond.methodLink R_Tr 130 y_Ld_append ∈ xw_G := xw_at 449 (by decide +kernel) (by decide +kernel)
theorem kw_409 : Cond.code y_Tr_copyFromNodes prog_8_method_3_code 1 (Option.none : Option Jvm.ClassFile.FieldType) ∈ xw_G := xw_at 409 (by decide +kernel) (by decide +kernel)
theorem kw_406 : Cond.methodLink R_Tr 39 y_Tr_copyFromNodes ∈ xw_G := xw_at 406 (by decide +kernel) (by decide +kernel)
theorem kw_408 : Cond.instanceMethod y_Tr_copyFromNodes ∈ xw_G := xw_at 408 (by decide +kernel) (by decide +kernel)
theorem kw_4 : Cond.selects R_Tr y_Tr_copyFromNodes y_Tr_copyFromNodes ∈ xw_G := xw_at 4 (by decide +kernel) (by decide +kernel)
theorem kw_420 : Cond.code y_Pr_startWith prog_6_method_2_code 3 (Option.none : Option Jvm.ClassFile.FieldType) ∈ xw_G := xw_at 420 (by decide +kernel) (by decide +kernel)
theorem kw_417 : Cond.methodLink R_Tr 42 y_Pr_startWith ∈ xw_G := xw_at 417 (by decide +kernel) (by decide +kernel)
theorem kw_418 : Cond.instanceMethod y_Pr_startWith ∈ xw_G := xw_at 418 (by decide +kernel) (by decide +kernel)
theorem kw_419 : Cond.selects R_Pr y_Pr_startWith y_Pr_startWith ∈ xw_G := xw_at 419 (by decide +kernel) (by decide +kernel)
theorem kw_426 : Cond.constant R_Tr 46 131073 ∈ xw_G := xw_at 426 (by decide +kernel) (by decide +kernel)
theorem kw_429 : Cond.code y_Ts_rootOf prog_1_method_29_code 4 (Option.some Jvm.ClassFile.FieldType.int) ∈ xw_G := xw_at 429 (by decide +kernel) (by decide +kernel)
theorem kw_428 : Cond.static y_Ts_rootOf ∈ xw_G := xw_at 428 (by decide +kernel) (by decide +kernel)
theorem kw_433 : Cond.code y_Tr_join prog_8_method_4_code 7 (Option.some Jvm.ClassFile.FieldType.boolean) ∈ xw_G := xw_at 433 (by decide +kernel) (by decide +kernel)
theorem kw_430 : Cond.methodLink R_Tr 61 y_Tr_join ∈ xw_G := xw_at 430 (by decide +kernel) (by decide +kernel)
theorem kw_432 : Cond.instanceMethod y_Tr_join ∈ xw_G := xw_at 432 (by decide +kernel) (by decide +kernel)
theorem kw_5 : Cond.selects R_Tr y_Tr_join y_Tr_join ∈ xw_G := xw_at 5 (by decide +kernel) (by decide +kernel)
theorem kw_448 : Cond.code y_Tr_collectBound prog_8_method_6_code 2 (Option.none : Option Jvm.ClassFile.FieldType) ∈ xw_G := xw_at 448 (by decide +kernel) (by decide +kernel)
theorem kw_445 : Cond.methodLink R_Tr 65 y_Tr_collectBound ∈ xw_G := xw_at 445 (by decide +kernel) (by decide +kernel)
theorem kw_447 : Cond.instanceMethod y_Tr_collectBound ∈ xw_G := xw_at 447 (by decide +kernel) (by decide +kernel)
theorem kw_7 : Cond.selects R_Tr y_Tr_collectBound y_Tr_collectBound ∈ xw_G := xw_at 7 (by decide +kernel) (by decide +kernel)
theorem kw_259 : Cond.fieldLink R_Lk 9 R_Lk "nodes" "LTreeStore$Nodes;" ∈ xw_G := xw_at 259 (by decide +kernel) (by decide +kernel)
theorem kw_257 : Cond.classLink R_Lk 15 R_Pr ∈ xw_G := xw_at 257 (by decide +kernel) (by decide +kernel)
theorem kw_258 : Cond.methodLink R_Lk 17 y_Pr_init ∈ xw_G := xw_at 258 (by decide +kernel) (by decide +kernel)
theorem kw_260 : Cond.fieldLink R_Lk 18 R_Lk "pairs" "LTreeStore$Pairs;" ∈ xw_G := xw_at 260 (by decide +kernel) (by decide +kernel)
theorem kw_261 : Cond.fieldLink R_Lk 22 R_Lk "up" "[I" ∈ xw_G := xw_at 261 (by decide +kernel) (by decide +kernel)
theorem kw_262 : Cond.fieldLink R_Lk 26 R_Lk "given" "[I" ∈ xw_G := xw_at 262 (by decide +kernel) (by decide +kernel)
theorem kw_483 : Cond.code y_No_isNeeded prog_5_method_4_code 2 (Option.some Jvm.ClassFile.FieldType.boolean) ∈ xw_G := xw_at 483 (by decide +kernel) (by decide +kernel)
theorem kw_553 : Cond.methodLink R_Lk 101 y_No_isNeeded ∈ xw_G := xw_at 553 (by decide +kernel) (by decide +kernel)
theorem kw_481 : Cond.instanceMethod y_No_isNeeded ∈ xw_G := xw_at 481 (by decide +kernel) (by decide +kernel)
theorem kw_482 : Cond.selects R_No y_No_isNeeded y_No_isNeeded ∈ xw_G := xw_at 482 (by decide +kernel) (by decide +kernel)
theorem kw_548 : Cond.methodLink R_Lk 70 y_No_sameShape ∈ xw_G := xw_at 548 (by decide +kernel) (by decide +kernel)
theorem kw_552 : Cond.code y_Lk_give prog_4_method_5_code 4 (Option.some Jvm.ClassFile.FieldType.boolean) ∈ xw_G := xw_at 552 (by decide +kernel) (by decide +kernel)
theorem kw_549 : Cond.methodLink R_Lk 76 y_Lk_give ∈ xw_G := xw_at 549 (by decide +kernel) (by decide +kernel)
theorem kw_551 : Cond.instanceMethod y_Lk_give ∈ xw_G := xw_at 551 (by decide +kernel) (by decide +kernel)
theorem kw_11 : Cond.selects R_Lk y_Lk_give y_Lk_give ∈ xw_G := xw_at 11 (by decide +kernel) (by decide +kernel)
theorem kw_46 : Cond.initialized R_Lk ∈ xw_G := xw_at 46 (by decide +kernel) (by decide +kernel)
theorem kw_556 : Cond.methodLink R_Lk 94 y_No_partLeader ∈ xw_G := xw_at 556 (by decide +kernel) (by decide +kernel)
theorem kw_557 : Cond.methodLink R_Lk 98 y_Pr_append ∈ xw_G := xw_at 557 (by decide +kernel) (by decide +kernel)
theorem kw_539 : Cond.code y_Lk_standApart prog_4_method_3_code 3 (Option.none : Option Jvm.ClassFile.FieldType) ∈ xw_G := xw_at 539 (by decide +kernel) (by decide +kernel)
theorem kw_536 : Cond.methodLink R_Lk 29 y_Lk_standApart ∈ xw_G := xw_at 536 (by decide +kernel) (by decide +kernel)
theorem kw_538 : Cond.instanceMethod y_Lk_standApart ∈ xw_G := xw_at 538 (by decide +kernel) (by decide +kernel)
theorem kw_9 : Cond.selects R_Lk y_Lk_standApart y_Lk_standApart ∈ xw_G := xw_at 9 (by decide +kernel) (by decide +kernel)
theorem kw_541 : Cond.methodLink R_Lk 37 y_Pr_startWith ∈ xw_G := xw_at 541 (by decide +kernel) (by decide +kernel)
theorem kw_542 : Cond.constant R_Lk 41 131073 ∈ xw_G := xw_at 542 (by decide +kernel) (by decide +kernel)
theorem kw_547 : Cond.code y_Lk_join prog_4_method_4_code 9 (Option.some Jvm.ClassFile.FieldType.boolean) ∈ xw_G := xw_at 547 (by decide +kernel) (by decide +kernel)
theorem kw_544 : Cond.methodLink R_Lk 56 y_Lk_join ∈ xw_G := xw_at 544 (by decide +kernel) (by decide +kernel)
theorem kw_546 : Cond.instanceMethod y_Lk_join ∈ xw_G := xw_at 546 (by decide +kernel) (by decide +kernel)
theorem kw_10 : Cond.selects R_Lk y_Lk_join y_Lk_join ∈ xw_G := xw_at 10 (by decide +kernel) (by decide +kernel)
theorem kw_59 : Cond.classLink R_Ts 9 R_No ∈ xw_G := xw_at 59 (by decide +kernel) (by decide +kernel)
theorem kw_60 : Cond.instantiable R_No 14 ∈ xw_G := xw_at 60 (by decide +kernel) (by decide +kernel)
theorem kw_63 : Cond.code y_No_init prog_5_method_1_code 1 (Option.none : Option Jvm.ClassFile.FieldType) ∈ xw_G := xw_at 63 (by decide +kernel) (by decide +kernel)
theorem kw_61 : Cond.methodLink R_Ts 11 y_No_init ∈ xw_G := xw_at 61 (by decide +kernel) (by decide +kernel)
theorem kw_62 : Cond.instanceMethod y_No_init ∈ xw_G := xw_at 62 (by decide +kernel) (by decide +kernel)
theorem kw_274 : Cond.fieldLink R_Ts 12 R_Ts "nodes" "LTreeStore$Nodes;" ∈ xw_G := xw_at 274 (by decide +kernel) (by decide +kernel)
theorem kw_180 : Cond.classLink R_Ts 16 R_Pu ∈ xw_G := xw_at 180 (by decide +kernel) (by decide +kernel)
theorem kw_181 : Cond.instantiable R_Pu 3 ∈ xw_G := xw_at 181 (by decide +kernel) (by decide +kernel)
theorem kw_43 : Cond.initialized R_Pu ∈ xw_G := xw_at 43 (by decide +kernel) (by decide +kernel)
theorem kw_184 : Cond.code y_Pu_init prog_7_method_1_code 1 (Option.none : Option Jvm.ClassFile.FieldType) ∈ xw_G := xw_at 184 (by decide +kernel) (by decide +kernel)
theorem kw_182 : Cond.methodLink R_Ts 18 y_Pu_init ∈ xw_G := xw_at 182 (by decide +kernel) (by decide +kernel)
theorem kw_183 : Cond.instanceMethod y_Pu_init ∈ xw_G := xw_at 183 (by decide +kernel) (by decide +kernel)
theorem kw_275 : Cond.fieldLink R_Ts 19 R_Ts "pushed" "LTreeStore$Pushed;" ∈ xw_G := xw_at 275 (by decide +kernel) (by decide +kernel)
theorem kw_201 : Cond.classLink R_Ts 23 R_Tr ∈ xw_G := xw_at 201 (by decide +kernel) (by decide +kernel)
theorem kw_202 : Cond.instantiable R_Tr 6 ∈ xw_G := xw_at 202 (by decide +kernel) (by decide +kernel)
theorem kw_205 : Cond.code y_Tr_init prog_8_method_1_code 2 (Option.none : Option Jvm.ClassFile.FieldType) ∈ xw_G := xw_at 205 (by decide +kernel) (by decide +kernel)
theorem kw_203 : Cond.methodLink R_Ts 25 y_Tr_init ∈ xw_G := xw_at 203 (by decide +kernel) (by decide +kernel)
theorem kw_204 : Cond.instanceMethod y_Tr_init ∈ xw_G := xw_at 204 (by decide +kernel) (by decide +kernel)
theorem kw_276 : Cond.fieldLink R_Ts 28 R_Ts "trial" "LTreeStore$Trial;" ∈ xw_G := xw_at 276 (by decide +kernel) (by decide +kernel)
theorem kw_251 : Cond.classLink R_Ts 32 R_Lk ∈ xw_G := xw_at 251 (by decide +kernel) (by decide +kernel)
theorem kw_252 : Cond.instantiable R_Lk 4 ∈ xw_G := xw_at 252 (by decide +kernel) (by decide +kernel)
theorem kw_255 : Cond.code y_Lk_init prog_4_method_1_code 2 (Option.none : Option Jvm.ClassFile.FieldType) ∈ xw_G := xw_at 255 (by decide +kernel) (by decide +kernel)
theorem kw_253 : Cond.methodLink R_Ts 34 y_Lk_init ∈ xw_G := xw_at 253 (by decide +kernel) (by decide +kernel)
theorem kw_254 : Cond.instanceMethod y_Lk_init ∈ xw_G := xw_at 254 (by decide +kernel) (by decide +kernel)
theorem kw_277 : Cond.fieldLink R_Ts 35 R_Ts "likeness" "LTreeStore$Likeness;" ∈ xw_G := xw_at 277 (by decide +kernel) (by decide +kernel)
theorem kw_272 : Cond.classLink R_Ts 39 R_Ld ∈ xw_G := xw_at 272 (by decide +kernel) (by decide +kernel)
theorem kw_273 : Cond.methodLink R_Ts 41 y_Ld_init ∈ xw_G := xw_at 273 (by decide +kernel) (by decide +kernel)
theorem kw_278 : Cond.fieldLink R_Ts 42 R_Ts "touchedLeaders" "LTreeStore$Leaders;" ∈ xw_G := xw_at 278 (by decide +kernel) (by decide +kernel)
theorem kw_297 : Cond.code y_No_addPlain prog_5_method_5_code 3 (Option.some Jvm.ClassFile.FieldType.int) ∈ xw_G := xw_at 297 (by decide +kernel) (by decide +kernel)
theorem kw_294 : Cond.methodLink R_Ts 46 y_No_addPlain ∈ xw_G := xw_at 294 (by decide +kernel) (by decide +kernel)
theorem kw_295 : Cond.instanceMethod y_No_addPlain ∈ xw_G := xw_at 295 (by decide +kernel) (by decide +kernel)
theorem kw_296 : Cond.selects R_No y_No_addPlain y_No_addPlain ∈ xw_G := xw_at 296 (by decide +kernel) (by decide +kernel)
theorem kw_355 : Cond.code y_Ts_isAtom prog_1_method_24_code 1 (Option.some Jvm.ClassFile.FieldType.boolean) ∈ xw_G := xw_at 355 (by decide +kernel) (by decide +kernel)
theorem kw_353 : Cond.methodLink R_Ts 50 y_Ts_isAtom ∈ xw_G := xw_at 353 (by decide +kernel) (by decide +kernel)
theorem kw_354 : Cond.static y_Ts_isAtom ∈ xw_G := xw_at 354 (by decide +kernel) (by decide +kernel)
theorem kw_360 : Cond.methodLink R_Ts 54 y_No_has ∈ xw_G := xw_at 360 (by decide +kernel) (by decide +kernel)
theorem kw_366 : Cond.code y_Ts_isFeature prog_1_method_25_code 1 (Option.some Jvm.ClassFile.FieldType.boolean) ∈ xw_G := xw_at 366 (by decide +kernel) (by decide +kernel)
theorem kw_364 : Cond.methodLink R_Ts 57 y_Ts_isFeature ∈ xw_G := xw_at 364 (by decide +kernel) (by decide +kernel)
theorem kw_365 : Cond.static y_Ts_isFeature ∈ xw_G := xw_at 365 (by decide +kernel) (by decide +kernel)
theorem kw_370 : Cond.code y_Pu_holds prog_7_method_2_code 3 (Option.some Jvm.ClassFile.FieldType.boolean) ∈ xw_G := xw_at 370 (by decide +kernel) (by decide +kernel)
theorem kw_367 : Cond.methodLink R_Ts 60 y_Pu_holds ∈ xw_G := xw_at 367 (by decide +kernel) (by decide +kernel)
theorem kw_368 : Cond.instanceMethod y_Pu_holds ∈ xw_G := xw_at 368 (by decide +kernel) (by decide +kernel)
theorem kw_369 : Cond.selects R_Pu y_Pu_holds y_Pu_holds ∈ xw_G := xw_at 369 (by decide +kernel) (by decide +kernel)
theorem kw_374 : Cond.code y_Pu_insert prog_7_method_3_code 4 (Option.none : Option Jvm.ClassFile.FieldType) ∈ xw_G := xw_at 374 (by decide +kernel) (by decide +kernel)
theorem kw_371 : Cond.methodLink R_Ts 67 y_Pu_insert ∈ xw_G := xw_at 371 (by decide +kernel) (by decide +kernel)
theorem kw_372 : Cond.instanceMethod y_Pu_insert ∈ xw_G := xw_at 372 (by decide +kernel) (by decide +kernel)
theorem kw_373 : Cond.selects R_Pu y_Pu_insert y_Pu_insert ∈ xw_G := xw_at 373 (by decide +kernel) (by decide +kernel)
theorem kw_386 : Cond.code y_No_addWithFields prog_5_method_6_code 5 (Option.some Jvm.ClassFile.FieldType.int) ∈ xw_G := xw_at 386 (by decide +kernel) (by decide +kernel)
theorem kw_383 : Cond.methodLink R_Ts 71 y_No_addWithFields ∈ xw_G := xw_at 383 (by decide +kernel) (by decide +kernel)
theorem kw_384 : Cond.instanceMethod y_No_addWithFields ∈ xw_G := xw_at 384 (by decide +kernel) (by decide +kernel)
theorem kw_385 : Cond.selects R_No y_No_addWithFields y_No_addWithFields ∈ xw_G := xw_at 385 (by decide +kernel) (by decide +kernel)
theorem kw_405 : Cond.code y_Tr_equate prog_8_method_2_code 4 (Option.some Jvm.ClassFile.FieldType.boolean) ∈ xw_G := xw_at 405 (by decide +kernel) (by decide +kernel)
theorem kw_402 : Cond.methodLink R_Ts 75 y_Tr_equate ∈ xw_G := xw_at 402 (by decide +kernel) (by decide +kernel)
theorem kw_403 : Cond.instanceMethod y_Tr_equate ∈ xw_G := xw_at 403 (by decide +kernel) (by decide +kernel)
theorem kw_404 : Cond.selects R_Tr y_Tr_equate y_Tr_equate ∈ xw_G := xw_at 404 (by decide +kernel) (by decide +kernel)
theorem kw_457 : Cond.code y_Tr_keep prog_8_method_7_code 3 (Option.none : Option Jvm.ClassFile.FieldType) ∈ xw_G := xw_at 457 (by decide +kernel) (by decide +kernel)
theorem kw_454 : Cond.methodLink R_Ts 79 y_Tr_keep ∈ xw_G := xw_at 454 (by decide +kernel) (by decide +kernel)
theorem kw_455 : Cond.instanceMethod y_Tr_keep ∈ xw_G := xw_at 455 (by decide +kernel) (by decide +kernel)
theorem kw_456 : Cond.selects R_Tr y_Tr_keep y_Tr_keep ∈ xw_G := xw_at 456 (by decide +kernel) (by decide +kernel)
theorem kw_461 : Cond.code y_Ld_become prog_3_method_5_code 2 (Option.none : Option Jvm.ClassFile.FieldType) ∈ xw_G := xw_at 461 (by decide +kernel) (by decide +kernel)
theorem kw_458 : Cond.methodLink R_Ts 85 y_Ld_become ∈ xw_G := xw_at 458 (by decide +kernel) (by decide +kernel)
theorem kw_459 : Cond.instanceMethod y_Ld_become ∈ xw_G := xw_at 459 (by decide +kernel) (by decide +kernel)
theorem kw_460 : Cond.selects R_Ld y_Ld_become y_Ld_become ∈ xw_G := xw_at 460 (by decide +kernel) (by decide +kernel)
theorem kw_463 : Cond.methodLink R_Ts 89 y_No_dropMarks ∈ xw_G := xw_at 463 (by decide +kernel) (by decide +kernel)
theorem kw_475 : Cond.code y_Ld_numbered prog_3_method_4_code 2 (Option.some Jvm.ClassFile.FieldType.int) ∈ xw_G := xw_at 475 (by decide +kernel) (by decide +kernel)
theorem kw_472 : Cond.methodLink R_Ts 93 y_Ld_numbered ∈ xw_G := xw_at 472 (by decide +kernel) (by decide +kernel)
theorem kw_473 : Cond.instanceMethod y_Ld_numbered ∈ xw_G := xw_at 473 (by decide +kernel) (by decide +kernel)
theorem kw_474 : Cond.selects R_Ld y_Ld_numbered y_Ld_numbered ∈ xw_G := xw_at 474 (by decide +kernel) (by decide +kernel)
theorem kw_480 : Cond.methodLink R_Ts 97 y_No_isNeeded ∈ xw_G := xw_at 480 (by decide +kernel) (by decide +kernel)
theorem kw_488 : Cond.methodLink R_Ts 107 y_Ld_empty ∈ xw_G := xw_at 488 (by decide +kernel) (by decide +kernel)
theorem kw_489 : Cond.methodLink R_Ts 110 y_Ld_append ∈ xw_G := xw_at 489 (by decide +kernel) (by decide +kernel)
theorem kw_502 : Cond.constantLong R_Ts 179 255 ∈ xw_G := xw_at 502 (by decide +kernel) (by decide +kernel)
theorem kw_506 : Cond.code y_No_placeNumbered prog_5_method_11_code 4 (Option.some Jvm.ClassFile.FieldType.int) ∈ xw_G := xw_at 506 (by decide +kernel) (by decide +kernel)
theorem kw_503 : Cond.methodLink R_Ts 130 y_No_placeNumbered ∈ xw_G := xw_at 503 (by decide +kernel) (by decide +kernel)
theorem kw_504 : Cond.instanceMethod y_No_placeNumbered ∈ xw_G := xw_at 504 (by decide +kernel) (by decide +kernel)
theorem kw_505 : Cond.selects R_No y_No_placeNumbered y_No_placeNumbered ∈ xw_G := xw_at 505 (by decide +kernel) (by decide +kernel)
theorem kw_507 : Cond.methodLink R_Ts 145 y_No_partLeader ∈ xw_G := xw_at 507 (by decide +kernel) (by decide +kernel)
theorem kw_501 : Cond.code y_Ts_follow prog_1_method_22_code 8 (Option.some Jvm.ClassFile.FieldType.int) ∈ xw_G := xw_at 501 (by decide +kernel) (by decide +kernel)
theorem kw_498 : Cond.methodLink R_Ts 114 y_Ts_follow ∈ xw_G := xw_at 498 (by decide +kernel) (by decide +kernel)
theorem kw_500 : Cond.instanceMethod y_Ts_follow ∈ xw_G := xw_at 500 (by decide +kernel) (by decide +kernel)
theorem kw_8 : Cond.selects R_Ts y_Ts_follow y_Ts_follow ∈ xw_G := xw_at 8 (by decide +kernel) (by decide +kernel)
theorem kw_522 : Cond.code y_No_placeOf prog_5_method_12_code 6 (Option.some Jvm.ClassFile.FieldType.int) ∈ xw_G := xw_at 522 (by decide +kernel) (by decide +kernel)
theorem kw_519 : Cond.methodLink R_Ts 142 y_No_placeOf ∈ xw_G := xw_at 519 (by decide +kernel) (by decide +kernel)
theorem kw_520 : Cond.instanceMethod y_No_placeOf ∈ xw_G := xw_at 520 (by decide +kernel) (by decide +kernel)
theorem kw_521 : Cond.selects R_No y_No_placeOf y_No_placeOf ∈ xw_G := xw_at 521 (by decide +kernel) (by decide +kernel)
theorem kw_527 : Cond.methodLink R_Ts 148 y_No_kindOf ∈ xw_G := xw_at 527 (by decide +kernel) (by decide +kernel)
theorem kw_535 : Cond.code y_Lk_alike prog_4_method_2_code 4 (Option.some Jvm.ClassFile.FieldType.boolean) ∈ xw_G := xw_at 535 (by decide +kernel) (by decide +kernel)
theorem kw_532 : Cond.methodLink R_Ts 154 y_Lk_alike ∈ xw_G := xw_at 532 (by decide +kernel) (by decide +kernel)
theorem kw_533 : Cond.instanceMethod y_Lk_alike ∈ xw_G := xw_at 533 (by decide +kernel) (by decide +kernel)
theorem kw_534 : Cond.selects R_Lk y_Lk_alike y_Lk_alike ∈ xw_G := xw_at 534 (by decide +kernel) (by decide +kernel)
theorem kw_565 : Cond.code y_No_markFrom prog_5_method_17_code 5 (Option.none : Option Jvm.ClassFile.FieldType) ∈ xw_G := xw_at 565 (by decide +kernel) (by decide +kernel)
theorem kw_562 : Cond.methodLink R_Ts 157 y_No_markFrom ∈ xw_G := xw_at 562 (by decide +kernel) (by decide +kernel)
theorem kw_563 : Cond.instanceMethod y_No_markFrom ∈ xw_G := xw_at 563 (by decide +kernel) (by decide +kernel)
theorem kw_564 : Cond.selects R_No y_No_markFrom y_No_markFrom ∈ xw_G := xw_at 564 (by decide +kernel) (by decide +kernel)
theorem kw_585 : Cond.code y_No_keepMarkedLeaders prog_5_method_20_code 2 (Option.none : Option Jvm.ClassFile.FieldType) ∈ xw_G := xw_at 585 (by decide +kernel) (by decide +kernel)
theorem kw_582 : Cond.methodLink R_Ts 163 y_No_keepMarkedLeaders ∈ xw_G := xw_at 582 (by decide +kernel) (by decide +kernel)
theorem kw_583 : Cond.instanceMethod y_No_keepMarkedLeaders ∈ xw_G := xw_at 583 (by decide +kernel) (by decide +kernel)
theorem kw_584 : Cond.selects R_No y_No_keepMarkedLeaders y_No_keepMarkedLeaders ∈ xw_G := xw_at 584 (by decide +kernel) (by decide +kernel)
theorem kw_613 : Cond.code y_Ts_forgetPushedAndTouched prog_1_method_23_code 1 (Option.none : Option Jvm.ClassFile.FieldType) ∈ xw_G := xw_at 613 (by decide +kernel) (by decide +kernel)
theorem kw_610 : Cond.methodLink R_Ts 166 y_Ts_forgetPushedAndTouched ∈ xw_G := xw_at 610 (by decide +kernel) (by decide +kernel)
theorem kw_612 : Cond.instanceMethod y_Ts_forgetPushedAndTouched ∈ xw_G := xw_at 612 (by decide +kernel) (by decide +kernel)
theorem kw_17 : Cond.selects R_Ts y_Ts_forgetPushedAndTouched y_Ts_forgetPushedAndTouched ∈ xw_G := xw_at 17 (by decide +kernel) (by decide +kernel)
theorem kw_625 : Cond.code y_No_variableLeaders prog_5_method_15_code 3 (Option.some Jvm.ClassFile.FieldType.int) ∈ xw_G := xw_at 625 (by decide +kernel) (by decide +kernel)
theorem kw_622 : Cond.methodLink R_Ts 172 y_No_variableLeaders ∈ xw_G := xw_at 622 (by decide +kernel) (by decide +kernel)
theorem kw_623 : Cond.instanceMethod y_No_variableLeaders ∈ xw_G := xw_at 623 (by decide +kernel) (by decide +kernel)
theorem kw_624 : Cond.selects R_No y_No_variableLeaders y_No_variableLeaders ∈ xw_G := xw_at 624 (by decide +kernel) (by decide +kernel)
theorem kw_632 : Cond.constant R_Md 9 32768 ∈ xw_G := xw_at 632 (by decide +kernel) (by decide +kernel)
theorem kw_713 : Cond.arrayClass Jvm.ClassFile.FieldType.byte ∈ xw_G := xw_at 713 (by decide +kernel) (by decide +kernel)
theorem kw_634 : Cond.fieldLink R_Md 10 R_Md "kinds" "[B" ∈ xw_G := xw_at 634 (by decide +kernel) (by decide +kernel)
theorem kw_635 : Cond.fieldLink R_Md 14 R_Md "values" "[I" ∈ xw_G := xw_at 635 (by decide +kernel) (by decide +kernel)
theorem kw_636 : Cond.fieldLink R_Md 18 R_Md "firsts" "[I" ∈ xw_G := xw_at 636 (by decide +kernel) (by decide +kernel)
theorem kw_637 : Cond.fieldLink R_Md 21 R_Md "manies" "[I" ∈ xw_G := xw_at 637 (by decide +kernel) (by decide +kernel)
theorem kw_714 : Cond.arrayClass Jvm.ClassFile.FieldType.boolean ∈ xw_G := xw_at 714 (by decide +kernel) (by decide +kernel)
theorem kw_638 : Cond.fieldLink R_Md 24 R_Md "said" "[Z" ∈ xw_G := xw_at 638 (by decide +kernel) (by decide +kernel)
theorem kw_639 : Cond.fieldLink R_Md 28 R_Md "marked" "[Z" ∈ xw_G := xw_at 639 (by decide +kernel) (by decide +kernel)
theorem kw_640 : Cond.fieldLink R_Md 31 R_Md "leaders" "[I" ∈ xw_G := xw_at 640 (by decide +kernel) (by decide +kernel)
theorem kw_641 : Cond.fieldLink R_Md 34 R_Md "trial" "[I" ∈ xw_G := xw_at 641 (by decide +kernel) (by decide +kernel)
theorem kw_642 : Cond.fieldLink R_Md 37 R_Md "shown" "[I" ∈ xw_G := xw_at 642 (by decide +kernel) (by decide +kernel)
theorem kw_633 : Cond.constant R_Md 40 65536 ∈ xw_G := xw_at 633 (by decide +kernel) (by decide +kernel)
theorem kw_645 : Cond.fieldLink R_Md 41 R_Md "features" "[I" ∈ xw_G := xw_at 645 (by decide +kernel) (by decide +kernel)
theorem kw_646 : Cond.fieldLink R_Md 44 R_Md "parts" "[I" ∈ xw_G := xw_at 646 (by decide +kernel) (by decide +kernel)
theorem kw_648 : Cond.fieldLink R_Md 47 R_Md "pushedFeatures" "[I" ∈ xw_G := xw_at 648 (by decide +kernel) (by decide +kernel)
theorem kw_649 : Cond.fieldLink R_Md 50 R_Md "pushedParts" "[I" ∈ xw_G := xw_at 649 (by decide +kernel) (by decide +kernel)
theorem kw_651 : Cond.fieldLink R_Md 53 R_Md "touched" "[I" ∈ xw_G := xw_at 651 (by decide +kernel) (by decide +kernel)
theorem kw_653 : Cond.fieldLink R_Md 56 R_Md "reached" "[I" ∈ xw_G := xw_at 653 (by decide +kernel) (by decide +kernel)
theorem kw_654 : Cond.fieldLink R_Md 59 R_Md "blocks" "[I" ∈ xw_G := xw_at 654 (by decide +kernel) (by decide +kernel)
theorem kw_655 : Cond.fieldLink R_Md 62 R_Md "newBlocks" "[I" ∈ xw_G := xw_at 655 (by decide +kernel) (by decide +kernel)
theorem kw_656 : Cond.fieldLink R_Md 65 R_Md "places" "[I" ∈ xw_G := xw_at 656 (by decide +kernel) (by decide +kernel)
theorem kw_657 : Cond.fieldLink R_Md 68 R_Md "written" "[I" ∈ xw_G := xw_at 657 (by decide +kernel) (by decide +kernel)
theorem kw_658 : Cond.fieldLink R_Md 71 R_Md "other" "[I" ∈ xw_G := xw_at 658 (by decide +kernel) (by decide +kernel)
theorem kw_643 : Cond.fieldLink R_Md 74 R_Md "end" "I" ∈ xw_G := xw_at 643 (by decide +kernel) (by decide +kernel)
theorem kw_644 : Cond.fieldLink R_Md 78 R_Md "nodes" "I" ∈ xw_G := xw_at 644 (by decide +kernel) (by decide +kernel)
theorem kw_726 : Cond.code y_Md_unmark prog_10_method_4_code 2 (Option.none : Option Jvm.ClassFile.FieldType) ∈ xw_G := xw_at 726 (by decide +kernel) (by decide +kernel)
theorem kw_723 : Cond.methodLink R_Md 81 y_Md_unmark ∈ xw_G := xw_at 723 (by decide +kernel) (by decide +kernel)
theorem kw_725 : Cond.instanceMethod y_Md_unmark ∈ xw_G := xw_at 725 (by decide +kernel) (by decide +kernel)
theorem kw_19 : Cond.selects R_Md y_Md_unmark y_Md_unmark ∈ xw_G := xw_at 19 (by decide +kernel) (by decide +kernel)
theorem kw_47 : Cond.initialized R_Md ∈ xw_G := xw_at 47 (by decide +kernel) (by decide +kernel)
theorem kw_647 : Cond.fieldLink R_Md 84 R_Md "fields" "I" ∈ xw_G := xw_at 647 (by decide +kernel) (by decide +kernel)
theorem kw_722 : Cond.code y_Md_make prog_10_method_5_code 4 (Option.some Jvm.ClassFile.FieldType.int) ∈ xw_G := xw_at 722 (by decide +kernel) (by decide +kernel)
theorem kw_719 : Cond.methodLink R_Md 87 y_Md_make ∈ xw_G := xw_at 719 (by decide +kernel) (by decide +kernel)
theorem kw_721 : Cond.instanceMethod y_Md_make ∈ xw_G := xw_at 721 (by decide +kernel) (by decide +kernel)
theorem kw_18 : Cond.selects R_Md y_Md_make y_Md_make ∈ xw_G := xw_at 18 (by decide +kernel) (by decide +kernel)
theorem kw_742 : Cond.code y_Md_has prog_10_method_2_code 2 (Option.some Jvm.ClassFile.FieldType.boolean) ∈ xw_G := xw_at 742 (by decide +kernel) (by decide +kernel)
theorem kw_739 : Cond.methodLink R_Md 91 y_Md_has ∈ xw_G := xw_at 739 (by decide +kernel) (by decide +kernel)
theorem kw_741 : Cond.instanceMethod y_Md_has ∈ xw_G := xw_at 741 (by decide +kernel) (by decide +kernel)
theorem kw_20 : Cond.selects R_Md y_Md_has y_Md_has ∈ xw_G := xw_at 20 (by decide +kernel) (by decide +kernel)
theorem kw_650 : Cond.fieldLink R_Md 95 R_Md "pushed" "I" ∈ xw_G := xw_at 650 (by decide +kernel) (by decide +kernel)
theorem kw_745 : Cond.code y_Md_rank prog_10_method_3_code 1 (Option.some Jvm.ClassFile.FieldType.int) ∈ xw_G := xw_at 745 (by decide +kernel) (by decide +kernel)
theorem kw_743 : Cond.methodLink R_Md 98 y_Md_rank ∈ xw_G := xw_at 743 (by decide +kernel) (by decide +kernel)
theorem kw_744 : Cond.static y_Md_rank ∈ xw_G := xw_at 744 (by decide +kernel) (by decide +kernel)
theorem kw_753 : Cond.code y_Md_makeOf prog_10_method_10_code 5 (Option.some Jvm.ClassFile.FieldType.int) ∈ xw_G := xw_at 753 (by decide +kernel) (by decide +kernel)
theorem kw_750 : Cond.methodLink R_Md 102 y_Md_makeOf ∈ xw_G := xw_at 750 (by decide +kernel) (by decide +kernel)
theorem kw_752 : Cond.instanceMethod y_Md_makeOf ∈ xw_G := xw_at 752 (by decide +kernel) (by decide +kernel)
theorem kw_21 : Cond.selects R_Md y_Md_makeOf y_Md_makeOf ∈ xw_G := xw_at 21 (by decide +kernel) (by decide +kernel)
theorem kw_778 : Cond.code y_Md_go prog_10_method_14_code 5 (Option.some Jvm.ClassFile.FieldType.boolean) ∈ xw_G := xw_at 778 (by decide +kernel) (by decide +kernel)
theorem kw_775 : Cond.methodLink R_Md 105 y_Md_go ∈ xw_G := xw_at 775 (by decide +kernel) (by decide +kernel)
theorem kw_777 : Cond.instanceMethod y_Md_go ∈ xw_G := xw_at 777 (by decide +kernel) (by decide +kernel)
theorem kw_25 : Cond.selects R_Md y_Md_go y_Md_go ∈ xw_G := xw_at 25 (by decide +kernel) (by decide +kernel)
theorem kw_770 : Cond.code y_Md_join prog_10_method_13_code 7 (Option.some Jvm.ClassFile.FieldType.boolean) ∈ xw_G := xw_at 770 (by decide +kernel) (by decide +kernel)
theorem kw_767 : Cond.methodLink R_Md 109 y_Md_join ∈ xw_G := xw_at 767 (by decide +kernel) (by decide +kernel)
theorem kw_769 : Cond.instanceMethod y_Md_join ∈ xw_G := xw_at 769 (by decide +kernel) (by decide +kernel)
theorem kw_23 : Cond.selects R_Md y_Md_join y_Md_join ∈ xw_G := xw_at 23 (by decide +kernel) (by decide +kernel)
theorem kw_774 : Cond.code y_Md_follow prog_10_method_15_code 6 (Option.some Jvm.ClassFile.FieldType.boolean) ∈ xw_G := xw_at 774 (by decide +kernel) (by decide +kernel)
theorem kw_771 : Cond.methodLink R_Md 119 y_Md_follow ∈ xw_G := xw_at 771 (by decide +kernel) (by decide +kernel)
theorem kw_773 : Cond.instanceMethod y_Md_follow ∈ xw_G := xw_at 773 (by decide +kernel) (by decide +kernel)
theorem kw_24 : Cond.selects R_Md y_Md_follow y_Md_follow ∈ xw_G := xw_at 24 (by decide +kernel) (by decide +kernel)
theorem kw_786 : Cond.code y_Md_meant prog_10_method_17_code 3 (Option.some Jvm.ClassFile.FieldType.int) ∈ xw_G := xw_at 786 (by decide +kernel) (by decide +kernel)
theorem kw_783 : Cond.methodLink R_Md 123 y_Md_meant ∈ xw_G := xw_at 783 (by decide +kernel) (by decide +kernel)
theorem kw_785 : Cond.instanceMethod y_Md_meant ∈ xw_G := xw_at 785 (by decide +kernel) (by decide +kernel)
theorem kw_27 : Cond.selects R_Md y_Md_meant y_Md_meant ∈ xw_G := xw_at 27 (by decide +kernel) (by decide +kernel)
theorem kw_765 : Cond.code y_Md_suppose prog_10_method_16_code 3 (Option.some Jvm.ClassFile.FieldType.boolean) ∈ xw_G := xw_at 765 (by decide +kernel) (by decide +kernel)
theorem kw_762 : Cond.methodLink R_Md 126 y_Md_suppose ∈ xw_G := xw_at 762 (by decide +kernel) (by decide +kernel)
theorem kw_764 : Cond.instanceMethod y_Md_suppose ∈ xw_G := xw_at 764 (by decide +kernel) (by decide +kernel)
theorem kw_22 : Cond.selects R_Md y_Md_suppose y_Md_suppose ∈ xw_G := xw_at 22 (by decide +kernel) (by decide +kernel)
theorem kw_652 : Cond.fieldLink R_Md 129 R_Md "touches" "I" ∈ xw_G := xw_at 652 (by decide +kernel) (by decide +kernel)
theorem kw_782 : Cond.code y_Md_changes prog_10_method_19_code 4 (Option.some Jvm.ClassFile.FieldType.boolean) ∈ xw_G := xw_at 782 (by decide +kernel) (by decide +kernel)
theorem kw_779 : Cond.methodLink R_Md 132 y_Md_changes ∈ xw_G := xw_at 779 (by decide +kernel) (by decide +kernel)
theorem kw_781 : Cond.instanceMethod y_Md_changes ∈ xw_G := xw_at 781 (by decide +kernel) (by decide +kernel)
theorem kw_26 : Cond.selects R_Md y_Md_changes y_Md_changes ∈ xw_G := xw_at 26 (by decide +kernel) (by decide +kernel)
theorem kw_790 : Cond.code y_Md_ask prog_10_method_21_code 5 (Option.some Jvm.ClassFile.FieldType.int) ∈ xw_G := xw_at 790 (by decide +kernel) (by decide +kernel)
theorem kw_795 : Cond.methodLink R_Md 135 y_Md_ask ∈ xw_G := xw_at 795 (by decide +kernel) (by decide +kernel)
theorem kw_788 : Cond.instanceMethod y_Md_ask ∈ xw_G := xw_at 788 (by decide +kernel) (by decide +kernel)
theorem kw_789 : Cond.selects R_Md y_Md_ask y_Md_ask ∈ xw_G := xw_at 789 (by decide +kernel) (by decide +kernel)
theorem kw_803 : Cond.code y_Md_isNeeded prog_10_method_18_code 4 (Option.some Jvm.ClassFile.FieldType.boolean) ∈ xw_G := xw_at 803 (by decide +kernel) (by decide +kernel)
theorem kw_800 : Cond.methodLink R_Md 138 y_Md_isNeeded ∈ xw_G := xw_at 800 (by decide +kernel) (by decide +kernel)
theorem kw_802 : Cond.instanceMethod y_Md_isNeeded ∈ xw_G := xw_at 802 (by decide +kernel) (by decide +kernel)
theorem kw_28 : Cond.selects R_Md y_Md_isNeeded y_Md_isNeeded ∈ xw_G := xw_at 28 (by decide +kernel) (by decide +kernel)
theorem kw_816 : Cond.constantLong R_Md 141 255 ∈ xw_G := xw_at 816 (by decide +kernel) (by decide +kernel)
theorem kw_815 : Cond.code y_Md_at prog_10_method_25_code 9 (Option.some Jvm.ClassFile.FieldType.int) ∈ xw_G := xw_at 815 (by decide +kernel) (by decide +kernel)
theorem kw_812 : Cond.methodLink R_Md 143 y_Md_at ∈ xw_G := xw_at 812 (by decide +kernel) (by decide +kernel)
theorem kw_814 : Cond.instanceMethod y_Md_at ∈ xw_G := xw_at 814 (by decide +kernel) (by decide +kernel)
theorem kw_29 : Cond.selects R_Md y_Md_at y_Md_at ∈ xw_G := xw_at 29 (by decide +kernel) (by decide +kernel)
theorem kw_828 : Cond.code y_Md_field prog_10_method_28_code 6 (Option.some Jvm.ClassFile.FieldType.int) ∈ xw_G := xw_at 828 (by decide +kernel) (by decide +kernel)
theorem kw_825 : Cond.methodLink R_Md 147 y_Md_field ∈ xw_G := xw_at 825 (by decide +kernel) (by decide +kernel)
theorem kw_827 : Cond.instanceMethod y_Md_field ∈ xw_G := xw_at 827 (by decide +kernel) (by decide +kernel)
theorem kw_30 : Cond.selects R_Md y_Md_field y_Md_field ∈ xw_G := xw_at 30 (by decide +kernel) (by decide +kernel)
theorem kw_856 : Cond.code y_Md_placeOf prog_10_method_32_code 4 (Option.some Jvm.ClassFile.FieldType.int) ∈ xw_G := xw_at 856 (by decide +kernel) (by decide +kernel)
theorem kw_853 : Cond.methodLink R_Md 150 y_Md_placeOf ∈ xw_G := xw_at 853 (by decide +kernel) (by decide +kernel)
theorem kw_855 : Cond.instanceMethod y_Md_placeOf ∈ xw_G := xw_at 855 (by decide +kernel) (by decide +kernel)
theorem kw_35 : Cond.selects R_Md y_Md_placeOf y_Md_placeOf ∈ xw_G := xw_at 35 (by decide +kernel) (by decide +kernel)
theorem kw_852 : Cond.code y_Md_isLike prog_10_method_33_code 8 (Option.some Jvm.ClassFile.FieldType.boolean) ∈ xw_G := xw_at 852 (by decide +kernel) (by decide +kernel)
theorem kw_849 : Cond.methodLink R_Md 153 y_Md_isLike ∈ xw_G := xw_at 849 (by decide +kernel) (by decide +kernel)
theorem kw_851 : Cond.instanceMethod y_Md_isLike ∈ xw_G := xw_at 851 (by decide +kernel) (by decide +kernel)
theorem kw_34 : Cond.selects R_Md y_Md_isLike y_Md_isLike ∈ xw_G := xw_at 34 (by decide +kernel) (by decide +kernel)
theorem kw_659 : Cond.fieldLink R_Md 157 R_Md "length" "I" ∈ xw_G := xw_at 659 (by decide +kernel) (by decide +kernel)
theorem kw_844 : Cond.code y_Md_reach prog_10_method_31_code 9 (Option.some Jvm.ClassFile.FieldType.int) ∈ xw_G := xw_at 844 (by decide +kernel) (by decide +kernel)
theorem kw_841 : Cond.methodLink R_Md 160 y_Md_reach ∈ xw_G := xw_at 841 (by decide +kernel) (by decide +kernel)
theorem kw_843 : Cond.instanceMethod y_Md_reach ∈ xw_G := xw_at 843 (by decide +kernel) (by decide +kernel)
theorem kw_32 : Cond.selects R_Md y_Md_reach y_Md_reach ∈ xw_G := xw_at 32 (by decide +kernel) (by decide +kernel)
theorem kw_848 : Cond.code y_Md_cut prog_10_method_34_code 6 (Option.none : Option Jvm.ClassFile.FieldType) ∈ xw_G := xw_at 848 (by decide +kernel) (by decide +kernel)
theorem kw_845 : Cond.methodLink R_Md 163 y_Md_cut ∈ xw_G := xw_at 845 (by decide +kernel) (by decide +kernel)
theorem kw_847 : Cond.instanceMethod y_Md_cut ∈ xw_G := xw_at 847 (by decide +kernel) (by decide +kernel)
theorem kw_33 : Cond.selects R_Md y_Md_cut y_Md_cut ∈ xw_G := xw_at 33 (by decide +kernel) (by decide +kernel)
theorem kw_860 : Cond.code y_Md_say prog_10_method_35_code 3 (Option.none : Option Jvm.ClassFile.FieldType) ∈ xw_G := xw_at 860 (by decide +kernel) (by decide +kernel)
theorem kw_857 : Cond.methodLink R_Md 167 y_Md_say ∈ xw_G := xw_at 857 (by decide +kernel) (by decide +kernel)
theorem kw_859 : Cond.instanceMethod y_Md_say ∈ xw_G := xw_at 859 (by decide +kernel) (by decide +kernel)
theorem kw_36 : Cond.selects R_Md y_Md_say y_Md_say ∈ xw_G := xw_at 36 (by decide +kernel) (by decide +kernel)
theorem kw_840 : Cond.code y_Md_write prog_10_method_36_code 9 (Option.none : Option Jvm.ClassFile.FieldType) ∈ xw_G := xw_at 840 (by decide +kernel) (by decide +kernel)
theorem kw_837 : Cond.methodLink R_Md 170 y_Md_write ∈ xw_G := xw_at 837 (by decide +kernel) (by decide +kernel)
theorem kw_839 : Cond.instanceMethod y_Md_write ∈ xw_G := xw_at 839 (by decide +kernel) (by decide +kernel)
theorem kw_31 : Cond.selects R_Md y_Md_write y_Md_write ∈ xw_G := xw_at 31 (by decide +kernel) (by decide +kernel)
theorem kw_872 : Cond.code y_Md_pack prog_10_method_40_code 6 (Option.none : Option Jvm.ClassFile.FieldType) ∈ xw_G := xw_at 872 (by decide +kernel) (by decide +kernel)
theorem kw_869 : Cond.methodLink R_Md 173 y_Md_pack ∈ xw_G := xw_at 869 (by decide +kernel) (by decide +kernel)
theorem kw_871 : Cond.instanceMethod y_Md_pack ∈ xw_G := xw_at 871 (by decide +kernel) (by decide +kernel)
theorem kw_37 : Cond.selects R_Md y_Md_pack y_Md_pack ∈ xw_G := xw_at 37 (by decide +kernel) (by decide +kernel)
theorem kw_84 : Cond.lays R_Fi R_Fi "features" "[I" ∈ xw_G := xw_at 84 (by decide +kernel) (by decide +kernel)
theorem kw_86 : Cond.lays R_Fi R_Fi "parts" "[I" ∈ xw_G := xw_at 86 (by decide +kernel) (by decide +kernel)
theorem kw_88 : Cond.lays R_Fi R_Fi "used" "I" ∈ xw_G := xw_at 88 (by decide +kernel) (by decide +kernel)
theorem kw_90 : Cond.lays R_Fi R_Fi "nextFeatures" "[I" ∈ xw_G := xw_at 90 (by decide +kernel) (by decide +kernel)
theorem kw_92 : Cond.lays R_Fi R_Fi "nextParts" "[I" ∈ xw_G := xw_at 92 (by decide +kernel) (by decide +kernel)
theorem kw_94 : Cond.lays R_Fi R_Fi "nextUsed" "I" ∈ xw_G := xw_at 94 (by decide +kernel) (by decide +kernel)
theorem kw_109 : Cond.lays R_Ld R_Ld "row" "[I" ∈ xw_G := xw_at 109 (by decide +kernel) (by decide +kernel)
theorem kw_111 : Cond.lays R_Ld R_Ld "size" "I" ∈ xw_G := xw_at 111 (by decide +kernel) (by decide +kernel)
theorem kw_263 : Cond.laysFinal R_Lk R_Lk "nodes" "LTreeStore$Nodes;" ∈ xw_G := xw_at 263 (by decide +kernel) (by decide +kernel)
theorem kw_265 : Cond.laysFinal R_Lk R_Lk "pairs" "LTreeStore$Pairs;" ∈ xw_G := xw_at 265 (by decide +kernel) (by decide +kernel)
theorem kw_267 : Cond.lays R_Lk R_Lk "up" "[I" ∈ xw_G := xw_at 267 (by decide +kernel) (by decide +kernel)
theorem kw_269 : Cond.lays R_Lk R_Lk "given" "[I" ∈ xw_G := xw_at 269 (by decide +kernel) (by decide +kernel)
theorem kw_151 : Cond.lays R_No R_No "kinds" "[I" ∈ xw_G := xw_at 151 (by decide +kernel) (by decide +kernel)
theorem kw_153 : Cond.lays R_No R_No "values" "[I" ∈ xw_G := xw_at 153 (by decide +kernel) (by decide +kernel)
theorem kw_155 : Cond.lays R_No R_No "starts" "[I" ∈ xw_G := xw_at 155 (by decide +kernel) (by decide +kernel)
theorem kw_157 : Cond.lays R_No R_No "sizes" "[I" ∈ xw_G := xw_at 157 (by decide +kernel) (by decide +kernel)
theorem kw_159 : Cond.lays R_No R_No "lead" "[I" ∈ xw_G := xw_at 159 (by decide +kernel) (by decide +kernel)
theorem kw_161 : Cond.lays R_No R_No "bodies" "[I" ∈ xw_G := xw_at 161 (by decide +kernel) (by decide +kernel)
theorem kw_163 : Cond.lays R_No R_No "needed" "[I" ∈ xw_G := xw_at 163 (by decide +kernel) (by decide +kernel)
theorem kw_165 : Cond.lays R_No R_No "marked" "[I" ∈ xw_G := xw_at 165 (by decide +kernel) (by decide +kernel)
theorem kw_167 : Cond.lays R_No R_No "top" "I" ∈ xw_G := xw_at 167 (by decide +kernel) (by decide +kernel)
theorem kw_169 : Cond.lays R_No R_No "lowest" "I" ∈ xw_G := xw_at 169 (by decide +kernel) (by decide +kernel)
theorem kw_171 : Cond.lays R_No R_No "alive" "I" ∈ xw_G := xw_at 171 (by decide +kernel) (by decide +kernel)
theorem kw_173 : Cond.lays R_No R_No "marks" "I" ∈ xw_G := xw_at 173 (by decide +kernel) (by decide +kernel)
theorem kw_175 : Cond.laysFinal R_No R_No "fields" "LTreeStore$Fields;" ∈ xw_G := xw_at 175 (by decide +kernel) (by decide +kernel)
theorem kw_177 : Cond.laysFinal R_No R_No "reached" "LTreeStore$Leaders;" ∈ xw_G := xw_at 177 (by decide +kernel) (by decide +kernel)
theorem kw_222 : Cond.lays R_Pr R_Pr "lefts" "[I" ∈ xw_G := xw_at 222 (by decide +kernel) (by decide +kernel)
theorem kw_224 : Cond.lays R_Pr R_Pr "rights" "[I" ∈ xw_G := xw_at 224 (by decide +kernel) (by decide +kernel)
theorem kw_226 : Cond.lays R_Pr R_Pr "size" "I" ∈ xw_G := xw_at 226 (by decide +kernel) (by decide +kernel)
theorem kw_194 : Cond.lays R_Pu R_Pu "features" "[I" ∈ xw_G := xw_at 194 (by decide +kernel) (by decide +kernel)
theorem kw_196 : Cond.lays R_Pu R_Pu "parts" "[I" ∈ xw_G := xw_at 196 (by decide +kernel) (by decide +kernel)
theorem kw_198 : Cond.lays R_Pu R_Pu "size" "I" ∈ xw_G := xw_at 198 (by decide +kernel) (by decide +kernel)
theorem kw_238 : Cond.laysFinal R_Tr R_Tr "nodes" "LTreeStore$Nodes;" ∈ xw_G := xw_at 238 (by decide +kernel) (by decide +kernel)
theorem kw_240 : Cond.laysFinal R_Tr R_Tr "pairs" "LTreeStore$Pairs;" ∈ xw_G := xw_at 240 (by decide +kernel) (by decide +kernel)
theorem kw_242 : Cond.laysFinal R_Tr R_Tr "bound" "LTreeStore$Leaders;" ∈ xw_G := xw_at 242 (by decide +kernel) (by decide +kernel)
theorem kw_244 : Cond.lays R_Tr R_Tr "up" "[I" ∈ xw_G := xw_at 244 (by decide +kernel) (by decide +kernel)
theorem kw_246 : Cond.lays R_Tr R_Tr "bodies" "[I" ∈ xw_G := xw_at 246 (by decide +kernel) (by decide +kernel)
theorem kw_248 : Cond.lays R_Tr R_Tr "hit" "[I" ∈ xw_G := xw_at 248 (by decide +kernel) (by decide +kernel)
theorem kw_279 : Cond.laysFinal R_Ts R_Ts "nodes" "LTreeStore$Nodes;" ∈ xw_G := xw_at 279 (by decide +kernel) (by decide +kernel)
theorem kw_281 : Cond.laysFinal R_Ts R_Ts "pushed" "LTreeStore$Pushed;" ∈ xw_G := xw_at 281 (by decide +kernel) (by decide +kernel)
theorem kw_283 : Cond.laysFinal R_Ts R_Ts "trial" "LTreeStore$Trial;" ∈ xw_G := xw_at 283 (by decide +kernel) (by decide +kernel)
theorem kw_285 : Cond.laysFinal R_Ts R_Ts "likeness" "LTreeStore$Likeness;" ∈ xw_G := xw_at 285 (by decide +kernel) (by decide +kernel)
theorem kw_287 : Cond.laysFinal R_Ts R_Ts "touchedLeaders" "LTreeStore$Leaders;" ∈ xw_G := xw_at 287 (by decide +kernel) (by decide +kernel)
theorem kw_660 : Cond.laysFinal R_Md R_Md "kinds" "[B" ∈ xw_G := xw_at 660 (by decide +kernel) (by decide +kernel)
theorem kw_662 : Cond.laysFinal R_Md R_Md "values" "[I" ∈ xw_G := xw_at 662 (by decide +kernel) (by decide +kernel)
theorem kw_664 : Cond.laysFinal R_Md R_Md "firsts" "[I" ∈ xw_G := xw_at 664 (by decide +kernel) (by decide +kernel)
theorem kw_666 : Cond.laysFinal R_Md R_Md "manies" "[I" ∈ xw_G := xw_at 666 (by decide +kernel) (by decide +kernel)
theorem kw_668 : Cond.laysFinal R_Md R_Md "said" "[Z" ∈ xw_G := xw_at 668 (by decide +kernel) (by decide +kernel)
theorem kw_670 : Cond.laysFinal R_Md R_Md "marked" "[Z" ∈ xw_G := xw_at 670 (by decide +kernel) (by decide +kernel)
theorem kw_672 : Cond.laysFinal R_Md R_Md "leaders" "[I" ∈ xw_G := xw_at 672 (by decide +kernel) (by decide +kernel)
theorem kw_674 : Cond.laysFinal R_Md R_Md "trial" "[I" ∈ xw_G := xw_at 674 (by decide +kernel) (by decide +kernel)
theorem kw_676 : Cond.laysFinal R_Md R_Md "shown" "[I" ∈ xw_G := xw_at 676 (by decide +kernel) (by decide +kernel)
theorem kw_678 : Cond.lays R_Md R_Md "end" "I" ∈ xw_G := xw_at 678 (by decide +kernel) (by decide +kernel)
theorem kw_680 : Cond.lays R_Md R_Md "nodes" "I" ∈ xw_G := xw_at 680 (by decide +kernel) (by decide +kernel)
theorem kw_682 : Cond.laysFinal R_Md R_Md "features" "[I" ∈ xw_G := xw_at 682 (by decide +kernel) (by decide +kernel)
theorem kw_684 : Cond.laysFinal R_Md R_Md "parts" "[I" ∈ xw_G := xw_at 684 (by decide +kernel) (by decide +kernel)
theorem kw_686 : Cond.lays R_Md R_Md "fields" "I" ∈ xw_G := xw_at 686 (by decide +kernel) (by decide +kernel)
theorem kw_688 : Cond.laysFinal R_Md R_Md "pushedFeatures" "[I" ∈ xw_G := xw_at 688 (by decide +kernel) (by decide +kernel)
theorem kw_690 : Cond.laysFinal R_Md R_Md "pushedParts" "[I" ∈ xw_G := xw_at 690 (by decide +kernel) (by decide +kernel)
theorem kw_692 : Cond.lays R_Md R_Md "pushed" "I" ∈ xw_G := xw_at 692 (by decide +kernel) (by decide +kernel)
theorem kw_694 : Cond.laysFinal R_Md R_Md "touched" "[I" ∈ xw_G := xw_at 694 (by decide +kernel) (by decide +kernel)
theorem kw_696 : Cond.lays R_Md R_Md "touches" "I" ∈ xw_G := xw_at 696 (by decide +kernel) (by decide +kernel)
theorem kw_698 : Cond.laysFinal R_Md R_Md "reached" "[I" ∈ xw_G := xw_at 698 (by decide +kernel) (by decide +kernel)
theorem kw_700 : Cond.laysFinal R_Md R_Md "blocks" "[I" ∈ xw_G := xw_at 700 (by decide +kernel) (by decide +kernel)
theorem kw_702 : Cond.laysFinal R_Md R_Md "newBlocks" "[I" ∈ xw_G := xw_at 702 (by decide +kernel) (by decide +kernel)
theorem kw_704 : Cond.laysFinal R_Md R_Md "places" "[I" ∈ xw_G := xw_at 704 (by decide +kernel) (by decide +kernel)
theorem kw_706 : Cond.lays R_Md R_Md "written" "[I" ∈ xw_G := xw_at 706 (by decide +kernel) (by decide +kernel)
theorem kw_708 : Cond.lays R_Md R_Md "other" "[I" ∈ xw_G := xw_at 708 (by decide +kernel) (by decide +kernel)
theorem kw_710 : Cond.lays R_Md R_Md "length" "I" ∈ xw_G := xw_at 710 (by decide +kernel) (by decide +kernel)
theorem kt_327_0 : Cond.methodLink R_Ja 304 Lib.Math.min.name ∈ xw_G := xw_at 327 (by decide +kernel) (by decide +kernel)
theorem kt_328_1 : Cond.static Lib.Math.min.name ∈ xw_G := xw_at 328 (by decide +kernel) (by decide +kernel)
theorem kt_329_2 : Cond.code Lib.Math.min.name Lib.Math.min.code 2 (some .int) ∈ xw_G := xw_at 329 (by decide +kernel) (by decide +kernel)
theorem kt_330_3 : Cond.methodLink R_Ja 150 arraycopyName ∈ xw_G := xw_at 330 (by decide +kernel) (by decide +kernel)
theorem kt_332_4 : Cond.native arraycopyName ∈ xw_G := xw_at 332 (by decide +kernel) (by decide +kernel)
theorem kt_331_5 : Cond.static arraycopyName ∈ xw_G := xw_at 331 (by decide +kernel) (by decide +kernel)
theorem kt_103_6 : Cond.methodLink R_Ld 3 Lib.objectInit ∈ xw_G := xw_at 103 (by decide +kernel) (by decide +kernel)
theorem kt_57_7 : Cond.instanceMethod Lib.objectInit ∈ xw_G := xw_at 57 (by decide +kernel) (by decide +kernel)
theorem kt_58_8 : Cond.code Lib.objectInit ⟨#[0xb1]⟩ 1 none ∈ xw_G := xw_at 58 (by decide +kernel) (by decide +kernel)
theorem kt_314_9 : Cond.methodLink R_Ts 181 Lib.Math.max.name ∈ xw_G := xw_at 314 (by decide +kernel) (by decide +kernel)
theorem kt_315_10 : Cond.static Lib.Math.max.name ∈ xw_G := xw_at 315 (by decide +kernel) (by decide +kernel)
theorem kt_316_11 : Cond.code Lib.Math.max.name Lib.Math.max.code 2 (some .int) ∈ xw_G := xw_at 316 (by decide +kernel) (by decide +kernel)
theorem kt_462_12 : Cond.methodLink R_Ld 23 arraycopyName ∈ xw_G := xw_at 462 (by decide +kernel) (by decide +kernel)
theorem kt_212_13 : Cond.methodLink R_Pr 3 Lib.objectInit ∈ xw_G := xw_at 212 (by decide +kernel) (by decide +kernel)
theorem kt_185_14 : Cond.methodLink R_Pu 3 Lib.objectInit ∈ xw_G := xw_at 185 (by decide +kernel) (by decide +kernel)
theorem kt_70_15 : Cond.methodLink R_Fi 3 Lib.objectInit ∈ xw_G := xw_at 70 (by decide +kernel) (by decide +kernel)
theorem kt_393_16 : Cond.methodLink R_Fi 41 arraycopyName ∈ xw_G := xw_at 393 (by decide +kernel) (by decide +kernel)
theorem kt_64_17 : Cond.methodLink R_No 3 Lib.objectInit ∈ xw_G := xw_at 64 (by decide +kernel) (by decide +kernel)
theorem kt_344_18 : Cond.methodLink R_No 99 Lib.Math.max.name ∈ xw_G := xw_at 344 (by decide +kernel) (by decide +kernel)
theorem kt_206_19 : Cond.methodLink R_Tr 3 Lib.objectInit ∈ xw_G := xw_at 206 (by decide +kernel) (by decide +kernel)
theorem kt_411_20 : Cond.methodLink R_Tr 80 arraycopyName ∈ xw_G := xw_at 411 (by decide +kernel) (by decide +kernel)
theorem kt_443_21 : Cond.methodLink R_Tr 100 Lib.Math.max.name ∈ xw_G := xw_at 443 (by decide +kernel) (by decide +kernel)
theorem kt_444_22 : Cond.methodLink R_Tr 106 Lib.Math.min.name ∈ xw_G := xw_at 444 (by decide +kernel) (by decide +kernel)
theorem kt_256_23 : Cond.methodLink R_Lk 3 Lib.objectInit ∈ xw_G := xw_at 256 (by decide +kernel) (by decide +kernel)
theorem kt_554_24 : Cond.methodLink R_Lk 79 Lib.Math.max.name ∈ xw_G := xw_at 554 (by decide +kernel) (by decide +kernel)
theorem kt_555_25 : Cond.methodLink R_Lk 85 Lib.Math.min.name ∈ xw_G := xw_at 555 (by decide +kernel) (by decide +kernel)
theorem kt_56_26 : Cond.methodLink R_Ts 3 Lib.objectInit ∈ xw_G := xw_at 56 (by decide +kernel) (by decide +kernel)
theorem kt_631_27 : Cond.methodLink R_Md 1 Lib.objectInit ∈ xw_G := xw_at 631 (by decide +kernel) (by decide +kernel)
theorem kt_766_28 : Cond.methodLink R_Md 113 arraycopyName ∈ xw_G := xw_at 766 (by decide +kernel) (by decide +kernel)
theorem kn_453 : Cond.methodLinkNest R_Ld 19 y_Ts_withRoom R_Ts ∈ xn_W := xn_at 453 (by decide +kernel) (by decide +kernel)
theorem kn_425 : Cond.methodLinkNest R_Pr 26 y_Ts_withRoom R_Ts ∈ xn_W := xn_at 425 (by decide +kernel) (by decide +kernel)
theorem kn_375 : Cond.methodLinkNest R_Pu 22 y_Ts_withRoom R_Ts ∈ xn_W := xn_at 375 (by decide +kernel) (by decide +kernel)
theorem kn_376 : Cond.methodLinkNest R_Pu 26 y_Ts_rank R_Ts ∈ xn_W := xn_at 376 (by decide +kernel) (by decide +kernel)
theorem kn_191 : Cond.fieldLinkNest R_Fi 31 R_Pu "size" "I" R_Ts ∈ xn_W := xn_at 191 (by decide +kernel) (by decide +kernel)
theorem kn_392 : Cond.methodLinkNest R_Fi 36 y_Ts_withRoom R_Ts ∈ xn_W := xn_at 392 (by decide +kernel) (by decide +kernel)
theorem kn_187 : Cond.fieldLinkNest R_Fi 40 R_Pu "features" "[I" R_Ts ∈ xn_W := xn_at 187 (by decide +kernel) (by decide +kernel)
theorem kn_189 : Cond.fieldLinkNest R_Fi 47 R_Pu "parts" "[I" R_Ts ∈ xn_W := xn_at 189 (by decide +kernel) (by decide +kernel)
theorem kn_311 : Cond.methodLinkNest R_No 105 y_Ts_withRoom R_Ts ∈ xn_W := xn_at 311 (by decide +kernel) (by decide +kernel)
theorem kn_337 : Cond.methodLinkNest R_No 119 y_Ts_wipe R_Ts ∈ xn_W := xn_at 337 (by decide +kernel) (by decide +kernel)
theorem kn_79 : Cond.fieldLinkNest R_No 76 R_Fi "used" "I" R_Ts ∈ xn_W := xn_at 79 (by decide +kernel) (by decide +kernel)
theorem kn_193 : Cond.fieldLinkNest R_No 79 R_Pu "size" "I" R_Ts ∈ xn_W := xn_at 193 (by decide +kernel) (by decide +kernel)
theorem kn_72 : Cond.fieldLinkNest R_No 109 R_Fi "features" "[I" R_Ts ∈ xn_W := xn_at 72 (by decide +kernel) (by decide +kernel)
theorem kn_76 : Cond.fieldLinkNest R_No 112 R_Fi "parts" "[I" R_Ts ∈ xn_W := xn_at 76 (by decide +kernel) (by decide +kernel)
theorem kn_108 : Cond.fieldLinkNest R_No 129 R_Ld "size" "I" R_Ts ∈ xn_W := xn_at 108 (by decide +kernel) (by decide +kernel)
theorem kn_105 : Cond.fieldLinkNest R_No 130 R_Ld "row" "[I" R_Ts ∈ xn_W := xn_at 105 (by decide +kernel) (by decide +kernel)
theorem kn_141 : Cond.fieldLinkNest R_Tr 68 R_No "top" "I" R_Ts ∈ xn_W := xn_at 141 (by decide +kernel) (by decide +kernel)
theorem kn_410 : Cond.methodLinkNest R_Tr 73 y_Ts_withRoom R_Ts ∈ xn_W := xn_at 410 (by decide +kernel) (by decide +kernel)
theorem kn_129 : Cond.fieldLinkNest R_Tr 77 R_No "lead" "[I" R_Ts ∈ xn_W := xn_at 129 (by decide +kernel) (by decide +kernel)
theorem kn_132 : Cond.fieldLinkNest R_Tr 86 R_No "bodies" "[I" R_Ts ∈ xn_W := xn_at 132 (by decide +kernel) (by decide +kernel)
theorem kn_412 : Cond.methodLinkNest R_Tr 87 y_Ts_wipe R_Ts ∈ xn_W := xn_at 412 (by decide +kernel) (by decide +kernel)
theorem kn_115 : Cond.fieldLinkNest R_Tr 94 R_No "kinds" "[I" R_Ts ∈ xn_W := xn_at 115 (by decide +kernel) (by decide +kernel)
theorem kn_125 : Cond.fieldLinkNest R_Tr 112 R_No "sizes" "[I" R_Ts ∈ xn_W := xn_at 125 (by decide +kernel) (by decide +kernel)
theorem kn_148 : Cond.fieldLinkNest R_Tr 115 R_No "fields" "LTreeStore$Fields;" R_Ts ∈ xn_W := xn_at 148 (by decide +kernel) (by decide +kernel)
theorem kn_75 : Cond.fieldLinkNest R_Tr 119 R_Fi "parts" "[I" R_Ts ∈ xn_W := xn_at 75 (by decide +kernel) (by decide +kernel)
theorem kn_122 : Cond.fieldLinkNest R_Tr 124 R_No "starts" "[I" R_Ts ∈ xn_W := xn_at 122 (by decide +kernel) (by decide +kernel)
theorem kn_220 : Cond.fieldLinkNest R_Tr 47 R_Pr "size" "I" R_Ts ∈ xn_W := xn_at 220 (by decide +kernel) (by decide +kernel)
theorem kn_214 : Cond.fieldLinkNest R_Tr 51 R_Pr "lefts" "[I" R_Ts ∈ xn_W := xn_at 214 (by decide +kernel) (by decide +kernel)
theorem kn_427 : Cond.methodLinkNest R_Tr 54 y_Ts_rootOf R_Ts ∈ xn_W := xn_at 427 (by decide +kernel) (by decide +kernel)
theorem kn_217 : Cond.fieldLinkNest R_Tr 58 R_Pr "rights" "[I" R_Ts ∈ xn_W := xn_at 217 (by decide +kernel) (by decide +kernel)
theorem kn_136 : Cond.fieldLinkNest R_Tr 133 R_No "needed" "[I" R_Ts ∈ xn_W := xn_at 136 (by decide +kernel) (by decide +kernel)
theorem kn_140 : Cond.fieldLinkNest R_Lk 60 R_No "top" "I" R_Ts ∈ xn_W := xn_at 140 (by decide +kernel) (by decide +kernel)
theorem kn_540 : Cond.methodLinkNest R_Lk 63 y_Ts_withRoom R_Ts ∈ xn_W := xn_at 540 (by decide +kernel) (by decide +kernel)
theorem kn_133 : Cond.fieldLinkNest R_Lk 67 R_No "bodies" "[I" R_Ts ∈ xn_W := xn_at 133 (by decide +kernel) (by decide +kernel)
theorem kn_116 : Cond.fieldLinkNest R_Lk 73 R_No "kinds" "[I" R_Ts ∈ xn_W := xn_at 116 (by decide +kernel) (by decide +kernel)
theorem kn_124 : Cond.fieldLinkNest R_Lk 88 R_No "sizes" "[I" R_Ts ∈ xn_W := xn_at 124 (by decide +kernel) (by decide +kernel)
theorem kn_121 : Cond.fieldLinkNest R_Lk 91 R_No "starts" "[I" R_Ts ∈ xn_W := xn_at 121 (by decide +kernel) (by decide +kernel)
theorem kn_128 : Cond.fieldLinkNest R_Lk 32 R_No "lead" "[I" R_Ts ∈ xn_W := xn_at 128 (by decide +kernel) (by decide +kernel)
theorem kn_221 : Cond.fieldLinkNest R_Lk 42 R_Pr "size" "I" R_Ts ∈ xn_W := xn_at 221 (by decide +kernel) (by decide +kernel)
theorem kn_215 : Cond.fieldLinkNest R_Lk 46 R_Pr "lefts" "[I" R_Ts ∈ xn_W := xn_at 215 (by decide +kernel) (by decide +kernel)
theorem kn_543 : Cond.methodLinkNest R_Lk 49 y_Ts_rootOf R_Ts ∈ xn_W := xn_at 543 (by decide +kernel) (by decide +kernel)
theorem kn_218 : Cond.fieldLinkNest R_Lk 53 R_Pr "rights" "[I" R_Ts ∈ xn_W := xn_at 218 (by decide +kernel) (by decide +kernel)
theorem kn_192 : Cond.fieldLinkNest R_Ts 63 R_Pu "size" "I" R_Ts ∈ xn_W := xn_at 192 (by decide +kernel) (by decide +kernel)
theorem kn_234 : Cond.fieldLinkNest R_Ts 82 R_Tr "bound" "LTreeStore$Leaders;" R_Ts ∈ xn_W := xn_at 234 (by decide +kernel) (by decide +kernel)
theorem kn_107 : Cond.fieldLinkNest R_Ts 92 R_Ld "size" "I" R_Ts ∈ xn_W := xn_at 107 (by decide +kernel) (by decide +kernel)
theorem kn_130 : Cond.fieldLinkNest R_Ts 100 R_No "lead" "[I" R_Ts ∈ xn_W := xn_at 130 (by decide +kernel) (by decide +kernel)
theorem kn_137 : Cond.fieldLinkNest R_Ts 104 R_No "needed" "[I" R_Ts ∈ xn_W := xn_at 137 (by decide +kernel) (by decide +kernel)
theorem kn_134 : Cond.fieldLinkNest R_Ts 118 R_No "bodies" "[I" R_Ts ∈ xn_W := xn_at 134 (by decide +kernel) (by decide +kernel)
theorem kn_117 : Cond.fieldLinkNest R_Ts 121 R_No "kinds" "[I" R_Ts ∈ xn_W := xn_at 117 (by decide +kernel) (by decide +kernel)
theorem kn_119 : Cond.fieldLinkNest R_Ts 124 R_No "values" "[I" R_Ts ∈ xn_W := xn_at 119 (by decide +kernel) (by decide +kernel)
theorem kn_126 : Cond.fieldLinkNest R_Ts 127 R_No "sizes" "[I" R_Ts ∈ xn_W := xn_at 126 (by decide +kernel) (by decide +kernel)
theorem kn_149 : Cond.fieldLinkNest R_Ts 133 R_No "fields" "LTreeStore$Fields;" R_Ts ∈ xn_W := xn_at 149 (by decide +kernel) (by decide +kernel)
theorem kn_73 : Cond.fieldLinkNest R_Ts 137 R_Fi "features" "[I" R_Ts ∈ xn_W := xn_at 73 (by decide +kernel) (by decide +kernel)
theorem kn_77 : Cond.fieldLinkNest R_Ts 151 R_Fi "parts" "[I" R_Ts ∈ xn_W := xn_at 77 (by decide +kernel) (by decide +kernel)
theorem kn_144 : Cond.fieldLinkNest R_Ts 160 R_No "alive" "I" R_Ts ∈ xn_W := xn_at 144 (by decide +kernel) (by decide +kernel)
theorem kn_80 : Cond.fieldLinkNest R_Ts 169 R_Fi "used" "I" R_Ts ∈ xn_W := xn_at 80 (by decide +kernel) (by decide +kernel)
theorem kn_146 : Cond.fieldLinkNest R_Ts 176 R_No "marks" "I" R_Ts ∈ xn_W := xn_at 146 (by decide +kernel) (by decide +kernel)
theorem ck_Fi : XC 0 R_Fi T_Fi 6 ty_Fi := ⟨rfl, tk_Fi, nm_Fi⟩
theorem hin_Fi : ∀ w ∈ u_ws R_Fi T_Fi 6, w ∈ xw_G := by
  intro w hw
  have e : u_ws R_Fi T_Fi 6 = [Cond.lays R_Fi R_Fi "features" "[I", Cond.lays R_Fi R_Fi "parts" "[I", Cond.lays R_Fi R_Fi "used" "I", Cond.lays R_Fi R_Fi "nextFeatures" "[I", Cond.lays R_Fi R_Fi "nextParts" "[I", Cond.lays R_Fi R_Fi "nextUsed" "I"] := by decide +kernel
  rw [e] at hw
  simp only [List.mem_cons, List.not_mem_nil, or_false] at hw
  rcases hw with rfl | rfl | rfl | rfl | rfl | rfl
  · exact kw_84
  · exact kw_86
  · exact kw_88
  · exact kw_90
  · exact kw_92
  · exact kw_94
theorem df_Fi : ∀ j, j < 6 → defaultValue (ty_Fi j) = vp_V [.null, .null, .int 0, .null, .null, .int 0] j := by
  intro j hj
  rcases (show j = 0 ∨ j = 1 ∨ j = 2 ∨ j = 3 ∨ j = 4 ∨ j = 5 by omega) with rfl | rfl | rfl | rfl | rfl | rfl <;> rfl
theorem ck_Ld : XC 1 R_Ld T_Ld 2 ty_Ld := ⟨rfl, tk_Ld, nm_Ld⟩
theorem hin_Ld : ∀ w ∈ u_ws R_Ld T_Ld 2, w ∈ xw_G := by
  intro w hw
  have e : u_ws R_Ld T_Ld 2 = [Cond.lays R_Ld R_Ld "row" "[I", Cond.lays R_Ld R_Ld "size" "I"] := by decide +kernel
  rw [e] at hw
  simp only [List.mem_cons, List.not_mem_nil, or_false] at hw
  rcases hw with rfl | rfl
  · exact kw_109
  · exact kw_111
theorem df_Ld : ∀ j, j < 2 → defaultValue (ty_Ld j) = vp_V [.null, .int 0] j := by
  intro j hj
  rcases (show j = 0 ∨ j = 1 by omega) with rfl | rfl <;> rfl
theorem ck_Lk : XC 2 R_Lk T_Lk 4 ty_Lk := ⟨rfl, tk_Lk, nm_Lk⟩
theorem hin_Lk : ∀ w ∈ u_ws R_Lk T_Lk 4, w ∈ xw_G := by
  intro w hw
  have e : u_ws R_Lk T_Lk 4 = [Cond.laysFinal R_Lk R_Lk "nodes" "LTreeStore$Nodes;", Cond.laysFinal R_Lk R_Lk "pairs" "LTreeStore$Pairs;", Cond.lays R_Lk R_Lk "up" "[I", Cond.lays R_Lk R_Lk "given" "[I"] := by decide +kernel
  rw [e] at hw
  simp only [List.mem_cons, List.not_mem_nil, or_false] at hw
  rcases hw with rfl | rfl | rfl | rfl
  · exact kw_263
  · exact kw_265
  · exact kw_267
  · exact kw_269
theorem df_Lk : ∀ j, j < 4 → defaultValue (ty_Lk j) = vp_V [.null, .null, .null, .null] j := by
  intro j hj
  rcases (show j = 0 ∨ j = 1 ∨ j = 2 ∨ j = 3 by omega) with rfl | rfl | rfl | rfl <;> rfl
theorem ck_No : XC 3 R_No T_No 14 ty_No := ⟨rfl, tk_No, nm_No⟩
theorem hin_No : ∀ w ∈ u_ws R_No T_No 14, w ∈ xw_G := by
  intro w hw
  have e : u_ws R_No T_No 14 = [Cond.lays R_No R_No "kinds" "[I", Cond.lays R_No R_No "values" "[I", Cond.lays R_No R_No "starts" "[I", Cond.lays R_No R_No "sizes" "[I", Cond.lays R_No R_No "lead" "[I", Cond.lays R_No R_No "bodies" "[I", Cond.lays R_No R_No "needed" "[I", Cond.lays R_No R_No "marked" "[I", Cond.lays R_No R_No "top" "I", Cond.lays R_No R_No "lowest" "I", Cond.lays R_No R_No "alive" "I", Cond.lays R_No R_No "marks" "I", Cond.laysFinal R_No R_No "fields" "LTreeStore$Fields;", Cond.laysFinal R_No R_No "reached" "LTreeStore$Leaders;"] := by decide +kernel
  rw [e] at hw
  simp only [List.mem_cons, List.not_mem_nil, or_false] at hw
  rcases hw with rfl | rfl | rfl | rfl | rfl | rfl | rfl | rfl | rfl | rfl | rfl | rfl | rfl | rfl
  · exact kw_151
  · exact kw_153
  · exact kw_155
  · exact kw_157
  · exact kw_159
  · exact kw_161
  · exact kw_163
  · exact kw_165
  · exact kw_167
  · exact kw_169
  · exact kw_171
  · exact kw_173
  · exact kw_175
  · exact kw_177
theorem df_No : ∀ j, j < 14 → defaultValue (ty_No j) = vp_V [.null, .null, .null, .null, .null, .null, .null, .null, .int 0, .int 0, .int 0, .int 0, .null, .null] j := by
  intro j hj
  rcases (show j = 0 ∨ j = 1 ∨ j = 2 ∨ j = 3 ∨ j = 4 ∨ j = 5 ∨ j = 6 ∨ j = 7 ∨ j = 8 ∨ j = 9 ∨ j = 10 ∨ j = 11 ∨ j = 12 ∨ j = 13 by omega) with rfl | rfl | rfl | rfl | rfl | rfl | rfl | rfl | rfl | rfl | rfl | rfl | rfl | rfl <;> rfl
theorem ck_Pr : XC 4 R_Pr T_Pr 3 ty_Pr := ⟨rfl, tk_Pr, nm_Pr⟩
theorem hin_Pr : ∀ w ∈ u_ws R_Pr T_Pr 3, w ∈ xw_G := by
  intro w hw
  have e : u_ws R_Pr T_Pr 3 = [Cond.lays R_Pr R_Pr "lefts" "[I", Cond.lays R_Pr R_Pr "rights" "[I", Cond.lays R_Pr R_Pr "size" "I"] := by decide +kernel
  rw [e] at hw
  simp only [List.mem_cons, List.not_mem_nil, or_false] at hw
  rcases hw with rfl | rfl | rfl
  · exact kw_222
  · exact kw_224
  · exact kw_226
theorem df_Pr : ∀ j, j < 3 → defaultValue (ty_Pr j) = vp_V [.null, .null, .int 0] j := by
  intro j hj
  rcases (show j = 0 ∨ j = 1 ∨ j = 2 by omega) with rfl | rfl | rfl <;> rfl
theorem ck_Pu : XC 5 R_Pu T_Pu 3 ty_Pu := ⟨rfl, tk_Pu, nm_Pu⟩
theorem hin_Pu : ∀ w ∈ u_ws R_Pu T_Pu 3, w ∈ xw_G := by
  intro w hw
  have e : u_ws R_Pu T_Pu 3 = [Cond.lays R_Pu R_Pu "features" "[I", Cond.lays R_Pu R_Pu "parts" "[I", Cond.lays R_Pu R_Pu "size" "I"] := by decide +kernel
  rw [e] at hw
  simp only [List.mem_cons, List.not_mem_nil, or_false] at hw
  rcases hw with rfl | rfl | rfl
  · exact kw_194
  · exact kw_196
  · exact kw_198
theorem df_Pu : ∀ j, j < 3 → defaultValue (ty_Pu j) = vp_V [.null, .null, .int 0] j := by
  intro j hj
  rcases (show j = 0 ∨ j = 1 ∨ j = 2 by omega) with rfl | rfl | rfl <;> rfl
theorem ck_Tr : XC 6 R_Tr T_Tr 6 ty_Tr := ⟨rfl, tk_Tr, nm_Tr⟩
theorem hin_Tr : ∀ w ∈ u_ws R_Tr T_Tr 6, w ∈ xw_G := by
  intro w hw
  have e : u_ws R_Tr T_Tr 6 = [Cond.laysFinal R_Tr R_Tr "nodes" "LTreeStore$Nodes;", Cond.laysFinal R_Tr R_Tr "pairs" "LTreeStore$Pairs;", Cond.laysFinal R_Tr R_Tr "bound" "LTreeStore$Leaders;", Cond.lays R_Tr R_Tr "up" "[I", Cond.lays R_Tr R_Tr "bodies" "[I", Cond.lays R_Tr R_Tr "hit" "[I"] := by decide +kernel
  rw [e] at hw
  simp only [List.mem_cons, List.not_mem_nil, or_false] at hw
  rcases hw with rfl | rfl | rfl | rfl | rfl | rfl
  · exact kw_238
  · exact kw_240
  · exact kw_242
  · exact kw_244
  · exact kw_246
  · exact kw_248
theorem df_Tr : ∀ j, j < 6 → defaultValue (ty_Tr j) = vp_V [.null, .null, .null, .null, .null, .null] j := by
  intro j hj
  rcases (show j = 0 ∨ j = 1 ∨ j = 2 ∨ j = 3 ∨ j = 4 ∨ j = 5 by omega) with rfl | rfl | rfl | rfl | rfl | rfl <;> rfl
theorem ck_Ts : XC 7 R_Ts T_Ts 5 ty_Ts := ⟨rfl, tk_Ts, nm_Ts⟩
theorem hin_Ts : ∀ w ∈ u_ws R_Ts T_Ts 5, w ∈ xw_G := by
  intro w hw
  have e : u_ws R_Ts T_Ts 5 = [Cond.laysFinal R_Ts R_Ts "nodes" "LTreeStore$Nodes;", Cond.laysFinal R_Ts R_Ts "pushed" "LTreeStore$Pushed;", Cond.laysFinal R_Ts R_Ts "trial" "LTreeStore$Trial;", Cond.laysFinal R_Ts R_Ts "likeness" "LTreeStore$Likeness;", Cond.laysFinal R_Ts R_Ts "touchedLeaders" "LTreeStore$Leaders;"] := by decide +kernel
  rw [e] at hw
  simp only [List.mem_cons, List.not_mem_nil, or_false] at hw
  rcases hw with rfl | rfl | rfl | rfl | rfl
  · exact kw_279
  · exact kw_281
  · exact kw_283
  · exact kw_285
  · exact kw_287
theorem df_Ts : ∀ j, j < 5 → defaultValue (ty_Ts j) = vp_V [.null, .null, .null, .null, .null] j := by
  intro j hj
  rcases (show j = 0 ∨ j = 1 ∨ j = 2 ∨ j = 3 ∨ j = 4 by omega) with rfl | rfl | rfl | rfl | rfl <;> rfl
theorem ck_Md : XC 8 R_Md T_Md 26 ty_Md := ⟨rfl, tk_Md, nm_Md⟩
theorem hin_Md : ∀ w ∈ u_ws R_Md T_Md 26, w ∈ xw_G := by
  intro w hw
  have e : u_ws R_Md T_Md 26 = [Cond.laysFinal R_Md R_Md "kinds" "[B", Cond.laysFinal R_Md R_Md "values" "[I", Cond.laysFinal R_Md R_Md "firsts" "[I", Cond.laysFinal R_Md R_Md "manies" "[I", Cond.laysFinal R_Md R_Md "said" "[Z", Cond.laysFinal R_Md R_Md "marked" "[Z", Cond.laysFinal R_Md R_Md "leaders" "[I", Cond.laysFinal R_Md R_Md "trial" "[I", Cond.laysFinal R_Md R_Md "shown" "[I", Cond.lays R_Md R_Md "end" "I", Cond.lays R_Md R_Md "nodes" "I", Cond.laysFinal R_Md R_Md "features" "[I", Cond.laysFinal R_Md R_Md "parts" "[I", Cond.lays R_Md R_Md "fields" "I", Cond.laysFinal R_Md R_Md "pushedFeatures" "[I", Cond.laysFinal R_Md R_Md "pushedParts" "[I", Cond.lays R_Md R_Md "pushed" "I", Cond.laysFinal R_Md R_Md "touched" "[I", Cond.lays R_Md R_Md "touches" "I", Cond.laysFinal R_Md R_Md "reached" "[I", Cond.laysFinal R_Md R_Md "blocks" "[I", Cond.laysFinal R_Md R_Md "newBlocks" "[I", Cond.laysFinal R_Md R_Md "places" "[I", Cond.lays R_Md R_Md "written" "[I", Cond.lays R_Md R_Md "other" "[I", Cond.lays R_Md R_Md "length" "I"] := by decide +kernel
  rw [e] at hw
  simp only [List.mem_cons, List.not_mem_nil, or_false] at hw
  rcases hw with rfl | rfl | rfl | rfl | rfl | rfl | rfl | rfl | rfl | rfl | rfl | rfl | rfl | rfl | rfl | rfl | rfl | rfl | rfl | rfl | rfl | rfl | rfl | rfl | rfl | rfl
  · exact kw_660
  · exact kw_662
  · exact kw_664
  · exact kw_666
  · exact kw_668
  · exact kw_670
  · exact kw_672
  · exact kw_674
  · exact kw_676
  · exact kw_678
  · exact kw_680
  · exact kw_682
  · exact kw_684
  · exact kw_686
  · exact kw_688
  · exact kw_690
  · exact kw_692
  · exact kw_694
  · exact kw_696
  · exact kw_698
  · exact kw_700
  · exact kw_702
  · exact kw_704
  · exact kw_706
  · exact kw_708
  · exact kw_710
theorem df_Md : ∀ j, j < 26 → defaultValue (ty_Md j) = vp_V [.null, .null, .null, .null, .null, .null, .null, .null, .null, .int 0, .int 0, .null, .null, .int 0, .null, .null, .int 0, .null, .int 0, .null, .null, .null, .null, .null, .null, .int 0] j := by
  intro j hj
  rcases (show j = 0 ∨ j = 1 ∨ j = 2 ∨ j = 3 ∨ j = 4 ∨ j = 5 ∨ j = 6 ∨ j = 7 ∨ j = 8 ∨ j = 9 ∨ j = 10 ∨ j = 11 ∨ j = 12 ∨ j = 13 ∨ j = 14 ∨ j = 15 ∨ j = 16 ∨ j = 17 ∨ j = 18 ∨ j = 19 ∨ j = 20 ∨ j = 21 ∨ j = 22 ∨ j = 23 ∨ j = 24 ∨ j = 25 by omega) with rfl | rfl | rfl | rfl | rfl | rfl | rfl | rfl | rfl | rfl | rfl | rfl | rfl | rfl | rfl | rfl | rfl | rfl | rfl | rfl | rfl | rfl | rfl | rfl | rfl | rfl <;> rfl
