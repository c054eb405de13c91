theorem kw_97 : Cond.arrayClass Jvm.ClassFile.FieldType.int ∈ xw_G := xw_at 97 (by decide +kernel) (by decide +kernel)
theorem kw_104 : Cond.fieldLink R_Ld 9 R_Ld "row" "[I" ∈ xw_G := xw_at 104 (by decide +kernel) (by decide +kernel)
theorem kw_106 : Cond.fieldLink R_Ld 15 R_Ld "size" "I" ∈ xw_G := xw_at 106 (by decide +kernel) (by decide +kernel)
theorem kw_48 : Cond.initialized "java/lang/Math" ∈ xw_G := xw_at 48 (by decide +kernel) (by decide +kernel)
theorem kw_50 : Cond.initialized "java/lang/System" ∈ xw_G := xw_at 50 (by decide +kernel) (by decide +kernel)
theorem kw_319 : Cond.code y_Ja_copyOf prog_14_method_123_code 3 (Option.some (Jvm.ClassFile.FieldType.array Jvm.ClassFile.FieldType.int)) ∈ xw_G := xw_at 319 (by decide +kernel) (by decide +kernel)
theorem kw_317 : Cond.methodLink R_Ts 186 y_Ja_copyOf ∈ xw_G := xw_at 317 (by decide +kernel) (by decide +kernel)
theorem kw_318 : Cond.static y_Ja_copyOf ∈ xw_G := xw_at 318 (by decide +kernel) (by decide +kernel)
theorem kw_49 : Cond.initialized R_Ja ∈ xw_G := xw_at 49 (by decide +kernel) (by decide +kernel)
theorem kw_313 : Cond.code y_Ts_withRoom prog_1_method_27_code 2 (Option.some (Jvm.ClassFile.FieldType.array Jvm.ClassFile.FieldType.int)) ∈ xw_G := xw_at 313 (by decide +kernel) (by decide +kernel)
theorem kw_39 : Cond.initialized R_Ts ∈ xw_G := xw_at 39 (by decide +kernel) (by decide +kernel)
theorem kw_312 : Cond.static y_Ts_withRoom ∈ xw_G := xw_at 312 (by decide +kernel) (by decide +kernel)
theorem kw_84 : Cond.lays R_Fi R_Fi "features" "[I" ∈ xw_G := xw_at 84 (by decide +kernel) (by decide +kernel)
theorem kw_86 : Cond.lays R_Fi R_Fi "parts" "[I" ∈ xw_G := xw_at 86 (by decide +kernel) (by decide +kernel)
theorem kw_88 : Cond.lays R_Fi R_Fi "used" "I" ∈ xw_G := xw_at 88 (by decide +kernel) (by decide +kernel)
theorem kw_90 : Cond.lays R_Fi R_Fi "nextFeatures" "[I" ∈ xw_G := xw_at 90 (by decide +kernel) (by decide +kernel)
theorem kw_92 : Cond.lays R_Fi R_Fi "nextParts" "[I" ∈ xw_G := xw_at 92 (by decide +kernel) (by decide +kernel)
theorem kw_94 : Cond.lays R_Fi R_Fi "nextUsed" "I" ∈ xw_G := xw_at 94 (by decide +kernel) (by decide +kernel)
theorem kw_109 : Cond.lays R_Ld R_Ld "row" "[I" ∈ xw_G := xw_at 109 (by decide +kernel) (by decide +kernel)
theorem kw_111 : Cond.lays R_Ld R_Ld "size" "I" ∈ xw_G := xw_at 111 (by decide +kernel) (by decide +kernel)
theorem kw_263 : Cond.laysFinal R_Lk R_Lk "nodes" "LTreeStore$Nodes;" ∈ xw_G := xw_at 263 (by decide +kernel) (by decide +kernel)
theorem kw_265 : Cond.laysFinal R_Lk R_Lk "pairs" "LTreeStore$Pairs;" ∈ xw_G := xw_at 265 (by decide +kernel) (by decide +kernel)
theorem kw_267 : Cond.lays R_Lk R_Lk "up" "[I" ∈ xw_G := xw_at 267 (by decide +kernel) (by decide +kernel)
theorem kw_269 : Cond.lays R_Lk R_Lk "given" "[I" ∈ xw_G := xw_at 269 (by decide +kernel) (by decide +kernel)
theorem kw_151 : Cond.lays R_No R_No "kinds" "[I" ∈ xw_G := xw_at 151 (by decide +kernel) (by decide +kernel)
theorem kw_153 : Cond.lays R_No R_No "values" "[I" ∈ xw_G := xw_at 153 (by decide +kernel) (by decide +kernel)
theorem kw_155 : Cond.lays R_No R_No "starts" "[I" ∈ xw_G := xw_at 155 (by decide +kernel) (by decide +kernel)
theorem kw_157 : Cond.lays R_No R_No "sizes" "[I" ∈ xw_G := xw_at 157 (by decide +kernel) (by decide +kernel)
theorem kw_159 : Cond.lays R_No R_No "lead" "[I" ∈ xw_G := xw_at 159 (by decide +kernel) (by decide +kernel)
theorem kw_161 : Cond.lays R_No R_No "bodies" "[I" ∈ xw_G := xw_at 161 (by decide +kernel) (by decide +kernel)
theorem kw_163 : Cond.lays R_No R_No "needed" "[I" ∈ xw_G := xw_at 163 (by decide +kernel) (by decide +kernel)
theorem kw_165 : Cond.lays R_No R_No "marked" "[I" ∈ xw_G := xw_at 165 (by decide +kernel) (by decide +kernel)
theorem kw_167 : Cond.lays R_No R_No "top" "I" ∈ xw_G := xw_at 167 (by decide +kernel) (by decide +kernel)
theorem kw_169 : Cond.lays R_No R_No "lowest" "I" ∈ xw_G := xw_at 169 (by decide +kernel) (by decide +kernel)
theorem kw_171 : Cond.lays R_No R_No "alive" "I" ∈ xw_G := xw_at 171 (by decide +kernel) (by decide +kernel)
theorem kw_173 : Cond.lays R_No R_No "marks" "I" ∈ xw_G := xw_at 173 (by decide +kernel) (by decide +kernel)
theorem kw_175 : Cond.laysFinal R_No R_No "fields" "LTreeStore$Fields;" ∈ xw_G := xw_at 175 (by decide +kernel) (by decide +kernel)
theorem kw_177 : Cond.laysFinal R_No R_No "reached" "LTreeStore$Leaders;" ∈ xw_G := xw_at 177 (by decide +kernel) (by decide +kernel)
theorem kw_222 : Cond.lays R_Pr R_Pr "lefts" "[I" ∈ xw_G := xw_at 222 (by decide +kernel) (by decide +kernel)
theorem kw_224 : Cond.lays R_Pr R_Pr "rights" "[I" ∈ xw_G := xw_at 224 (by decide +kernel) (by decide +kernel)
theorem kw_226 : Cond.lays R_Pr R_Pr "size" "I" ∈ xw_G := xw_at 226 (by decide +kernel) (by decide +kernel)
theorem kw_194 : Cond.lays R_Pu R_Pu "features" "[I" ∈ xw_G := xw_at 194 (by decide +kernel) (by decide +kernel)
theorem kw_196 : Cond.lays R_Pu R_Pu "parts" "[I" ∈ xw_G := xw_at 196 (by decide +kernel) (by decide +kernel)
theorem kw_198 : Cond.lays R_Pu R_Pu "size" "I" ∈ xw_G := xw_at 198 (by decide +kernel) (by decide +kernel)
theorem kw_238 : Cond.laysFinal R_Tr R_Tr "nodes" "LTreeStore$Nodes;" ∈ xw_G := xw_at 238 (by decide +kernel) (by decide +kernel)
theorem kw_240 : Cond.laysFinal R_Tr R_Tr "pairs" "LTreeStore$Pairs;" ∈ xw_G := xw_at 240 (by decide +kernel) (by decide +kernel)
theorem kw_242 : Cond.laysFinal R_Tr R_Tr "bound" "LTreeStore$Leaders;" ∈ xw_G := xw_at 242 (by decide +kernel) (by decide +kernel)
theorem kw_244 : Cond.lays R_Tr R_Tr "up" "[I" ∈ xw_G := xw_at 244 (by decide +kernel) (by decide +kernel)
theorem kw_246 : Cond.lays R_Tr R_Tr "bodies" "[I" ∈ xw_G := xw_at 246 (by decide +kernel) (by decide +kernel)
theorem kw_248 : Cond.lays R_Tr R_Tr "hit" "[I" ∈ xw_G := xw_at 248 (by decide +kernel) (by decide +kernel)
theorem kw_279 : Cond.laysFinal R_Ts R_Ts "nodes" "LTreeStore$Nodes;" ∈ xw_G := xw_at 279 (by decide +kernel) (by decide +kernel)
theorem kw_281 : Cond.laysFinal R_Ts R_Ts "pushed" "LTreeStore$Pushed;" ∈ xw_G := xw_at 281 (by decide +kernel) (by decide +kernel)
theorem kw_283 : Cond.laysFinal R_Ts R_Ts "trial" "LTreeStore$Trial;" ∈ xw_G := xw_at 283 (by decide +kernel) (by decide +kernel)
theorem kw_285 : Cond.laysFinal R_Ts R_Ts "likeness" "LTreeStore$Likeness;" ∈ xw_G := xw_at 285 (by decide +kernel) (by decide +kernel)
theorem kw_287 : Cond.laysFinal R_Ts R_Ts "touchedLeaders" "LTreeStore$Leaders;" ∈ xw_G := xw_at 287 (by decide +kernel) (by decide +kernel)
theorem kw_660 : Cond.laysFinal R_Md R_Md "kinds" "[B" ∈ xw_G := xw_at 660 (by decide +kernel) (by decide +kernel)
theorem kw_662 : Cond.laysFinal R_Md R_Md "values" "[I" ∈ xw_G := xw_at 662 (by decide +kernel) (by decide +kernel)
theorem kw_664 : Cond.laysFinal R_Md R_Md "firsts" "[I" ∈ xw_G := xw_at 664 (by decide +kernel) (by decide +kernel)
theorem kw_666 : Cond.laysFinal R_Md R_Md "manies" "[I" ∈ xw_G := xw_at 666 (by decide +kernel) (by decide +kernel)
theorem kw_668 : Cond.laysFinal R_Md R_Md "said" "[Z" ∈ xw_G := xw_at 668 (by decide +kernel) (by decide +kernel)
theorem kw_670 : Cond.laysFinal R_Md R_Md "marked" "[Z" ∈ xw_G := xw_at 670 (by decide +kernel) (by decide +kernel)
theorem kw_672 : Cond.laysFinal R_Md R_Md "leaders" "[I" ∈ xw_G := xw_at 672 (by decide +kernel) (by decide +kernel)
theorem kw_674 : Cond.laysFinal R_Md R_Md "trial" "[I" ∈ xw_G := xw_at 674 (by decide +kernel) (by decide +kernel)
theorem kw_676 : Cond.laysFinal R_Md R_Md "shown" "[I" ∈ xw_G := xw_at 676 (by decide +kernel) (by decide +kernel)
theorem kw_678 : Cond.lays R_Md R_Md "end" "I" ∈ xw_G := xw_at 678 (by decide +kernel) (by decide +kernel)
theorem kw_680 : Cond.lays R_Md R_Md "nodes" "I" ∈ xw_G := xw_at 680 (by decide +kernel) (by decide +kernel)
theorem kw_682 : Cond.laysFinal R_Md R_Md "features" "[I" ∈ xw_G := xw_at 682 (by decide +kernel) (by decide +kernel)
theorem kw_684 : Cond.laysFinal R_Md R_Md "parts" "[I" ∈ xw_G := xw_at 684 (by decide +kernel) (by decide +kernel)
theorem kw_686 : Cond.lays R_Md R_Md "fields" "I" ∈ xw_G := xw_at 686 (by decide +kernel) (by decide +kernel)
theorem kw_688 : Cond.laysFinal R_Md R_Md "pushedFeatures" "[I" ∈ xw_G := xw_at 688 (by decide +kernel) (by decide +kernel)
theorem kw_690 : Cond.laysFinal R_Md R_Md "pushedParts" "[I" ∈ xw_G := xw_at 690 (by decide +kernel) (by decide +kernel)
theorem kw_692 : Cond.lays R_Md R_Md "pushed" "I" ∈ xw_G := xw_at 692 (by decide +kernel) (by decide +kernel)
theorem kw_694 : Cond.laysFinal R_Md R_Md "touched" "[I" ∈ xw_G := xw_at 694 (by decide +kernel) (by decide +kernel)
theorem kw_696 : Cond.lays R_Md R_Md "touches" "I" ∈ xw_G := xw_at 696 (by decide +kernel) (by decide +kernel)
theorem kw_698 : Cond.laysFinal R_Md R_Md "reached" "[I" ∈ xw_G := xw_at 698 (by decide +kernel) (by decide +kernel)
theorem kw_700 : Cond.laysFinal R_Md R_Md "blocks" "[I" ∈ xw_G := xw_at 700 (by decide +kernel) (by decide +kernel)
theorem kw_702 : Cond.laysFinal R_Md R_Md "newBlocks" "[I" ∈ xw_G := xw_at 702 (by decide +kernel) (by decide +kernel)
theorem kw_704 : Cond.laysFinal R_Md R_Md "places" "[I" ∈ xw_G := xw_at 704 (by decide +kernel) (by decide +kernel)
theorem kw_706 : Cond.lays R_Md R_Md "written" "[I" ∈ xw_G := xw_at 706 (by decide +kernel) (by decide +kernel)
theorem kw_708 : Cond.lays R_Md R_Md "other" "[I" ∈ xw_G := xw_at 708 (by decide +kernel) (by decide +kernel)
theorem kw_710 : Cond.lays R_Md R_Md "length" "I" ∈ xw_G := xw_at 710 (by decide +kernel) (by decide +kernel)
theorem kt_103_0 : Cond.methodLink R_Ld 3 Lib.objectInit ∈ xw_G := xw_at 103 (by decide +kernel) (by decide +kernel)
theorem kt_57_1 : Cond.instanceMethod Lib.objectInit ∈ xw_G := xw_at 57 (by decide +kernel) (by decide +kernel)
theorem kt_58_2 : Cond.code Lib.objectInit ⟨#[0xb1]⟩ 1 none ∈ xw_G := xw_at 58 (by decide +kernel) (by decide +kernel)
theorem kt_327_3 : Cond.methodLink R_Ja 304 Lib.Math.min.name ∈ xw_G := xw_at 327 (by decide +kernel) (by decide +kernel)
theorem kt_328_4 : Cond.static Lib.Math.min.name ∈ xw_G := xw_at 328 (by decide +kernel) (by decide +kernel)
theorem kt_329_5 : Cond.code Lib.Math.min.name Lib.Math.min.code 2 (some .int) ∈ xw_G := xw_at 329 (by decide +kernel) (by decide +kernel)
theorem kt_330_6 : Cond.methodLink R_Ja 150 arraycopyName ∈ xw_G := xw_at 330 (by decide +kernel) (by decide +kernel)
theorem kt_332_7 : Cond.native arraycopyName ∈ xw_G := xw_at 332 (by decide +kernel) (by decide +kernel)
theorem kt_331_8 : Cond.static arraycopyName ∈ xw_G := xw_at 331 (by decide +kernel) (by decide +kernel)
theorem kt_314_9 : Cond.methodLink R_Ts 181 Lib.Math.max.name ∈ xw_G := xw_at 314 (by decide +kernel) (by decide +kernel)
theorem kt_315_10 : Cond.static Lib.Math.max.name ∈ xw_G := xw_at 315 (by decide +kernel) (by decide +kernel)
theorem kt_316_11 : Cond.code Lib.Math.max.name Lib.Math.max.code 2 (some .int) ∈ xw_G := xw_at 316 (by decide +kernel) (by decide +kernel)
theorem kt_462_12 : Cond.methodLink R_Ld 23 arraycopyName ∈ xw_G := xw_at 462 (by decide +kernel) (by decide +kernel)
theorem kn_453 : Cond.methodLinkNest R_Ld 19 y_Ts_withRoom R_Ts ∈ xn_W := xn_at 453 (by decide +kernel) (by decide +kernel)
theorem ck_Fi : XC 0 R_Fi T_Fi 6 ty_Fi := ⟨rfl, tk_Fi, nm_Fi⟩
theorem hin_Fi : ∀ w ∈ u_ws R_Fi T_Fi 6, w ∈ xw_G := by
  intro w hw
  have e : u_ws R_Fi T_Fi 6 = [Cond.lays R_Fi R_Fi "features" "[I", Cond.lays R_Fi R_Fi "parts" "[I", Cond.lays R_Fi R_Fi "used" "I", Cond.lays R_Fi R_Fi "nextFeatures" "[I", Cond.lays R_Fi R_Fi "nextParts" "[I", Cond.lays R_Fi R_Fi "nextUsed" "I"] := by decide +kernel
  rw [e] at hw
  simp only [List.mem_cons, List.not_mem_nil, or_false] at hw
  rcases hw with rfl | rfl | rfl | rfl | rfl | rfl
  · exact kw_84
  · exact kw_86
  · exact kw_88
  · exact kw_90
  · exact kw_92
  · exact kw_94
theorem df_Fi : ∀ j, j < 6 → defaultValue (ty_Fi j) = vp_V [.null, .null, .int 0, .null, .null, .int 0] j := by
  intro j hj
  rcases (show j = 0 ∨ j = 1 ∨ j = 2 ∨ j = 3 ∨ j = 4 ∨ j = 5 by omega) with rfl | rfl | rfl | rfl | rfl | rfl <;> rfl
theorem ck_Ld : XC 1 R_Ld T_Ld 2 ty_Ld := ⟨rfl, tk_Ld, nm_Ld⟩
theorem hin_Ld : ∀ w ∈ u_ws R_Ld T_Ld 2, w ∈ xw_G := by
  intro w hw
  have e : u_ws R_Ld T_Ld 2 = [Cond.lays R_Ld R_Ld "row" "[I", Cond.lays R_Ld R_Ld "size" "I"] := by decide +kernel
  rw [e] at hw
  simp only [List.mem_cons, List.not_mem_nil, or_false] at hw
  rcases hw with rfl | rfl
  · exact kw_109
  · exact kw_111
theorem df_Ld : ∀ j, j < 2 → defaultValue (ty_Ld j) = vp_V [.null, .int 0] j := by
  intro j hj
  rcases (show j = 0 ∨ j = 1 by omega) with rfl | rfl <;> rfl
theorem ck_Lk : XC 2 R_Lk T_Lk 4 ty_Lk := ⟨rfl, tk_Lk, nm_Lk⟩
theorem hin_Lk : ∀ w ∈ u_ws R_Lk T_Lk 4, w ∈ xw_G := by
  intro w hw
  have e : u_ws R_Lk T_Lk 4 = [Cond.laysFinal R_Lk R_Lk "nodes" "LTreeStore$Nodes;", Cond.laysFinal R_Lk R_Lk "pairs" "LTreeStore$Pairs;", Cond.lays R_Lk R_Lk "up" "[I", Cond.lays R_Lk R_Lk "given" "[I"] := by decide +kernel
  rw [e] at hw
  simp only [List.mem_cons, List.not_mem_nil, or_false] at hw
  rcases hw with rfl | rfl | rfl | rfl
  · exact kw_263
  · exact kw_265
  · exact kw_267
  · exact kw_269
theorem df_Lk : ∀ j, j < 4 → defaultValue (ty_Lk j) = vp_V [.null, .null, .null, .null] j := by
  intro j hj
  rcases (show j = 0 ∨ j = 1 ∨ j = 2 ∨ j = 3 by omega) with rfl | rfl | rfl | rfl <;> rfl
theorem ck_No : XC 3 R_No T_No 14 ty_No := ⟨rfl, tk_No, nm_No⟩
theorem hin_No : ∀ w ∈ u_ws R_No T_No 14, w ∈ xw_G := by
  intro w hw
  have e : u_ws R_No T_No 14 = [Cond.lays R_No R_No "kinds" "[I", Cond.lays R_No R_No "values" "[I", Cond.lays R_No R_No "starts" "[I", Cond.lays R_No R_No "sizes" "[I", Cond.lays R_No R_No "lead" "[I", Cond.lays R_No R_No "bodies" "[I", Cond.lays R_No R_No "needed" "[I", Cond.lays R_No R_No "marked" "[I", Cond.lays R_No R_No "top" "I", Cond.lays R_No R_No "lowest" "I", Cond.lays R_No R_No "alive" "I", Cond.lays R_No R_No "marks" "I", Cond.laysFinal R_No R_No "fields" "LTreeStore$Fields;", Cond.laysFinal R_No R_No "reached" "LTreeStore$Leaders;"] := by decide +kernel
  rw [e] at hw
  simp only [List.mem_cons, List.not_mem_nil, or_false] at hw
  rcases hw with rfl | rfl | rfl | rfl | rfl | rfl | rfl | rfl | rfl | rfl | rfl | rfl | rfl | rfl
  · exact kw_151
  · exact kw_153
  · exact kw_155
  · exact kw_157
  · exact kw_159
  · exact kw_161
  · exact kw_163
  · exact kw_165
  · exact kw_167
  · exact kw_169
  · exact kw_171
  · exact kw_173
  · exact kw_175
  · exact kw_177
theorem df_No : ∀ j, j < 14 → defaultValue (ty_No j) = vp_V [.null, .null, .null, .null, .null, .null, .null, .null, .int 0, .int 0, .int 0, .int 0, .null, .null] j := by
  intro j hj
  rcases (show j = 0 ∨ j = 1 ∨ j = 2 ∨ j = 3 ∨ j = 4 ∨ j = 5 ∨ j = 6 ∨ j = 7 ∨ j = 8 ∨ j = 9 ∨ j = 10 ∨ j = 11 ∨ j = 12 ∨ j = 13 by omega) with rfl | rfl | rfl | rfl | rfl | rfl | rfl | rfl | rfl | rfl | rfl | rfl | rfl | rfl <;> rfl
theorem ck_Pr : XC 4 R_Pr T_Pr 3 ty_Pr := ⟨rfl, tk_Pr, nm_Pr⟩
theorem hin_Pr : ∀ w ∈ u_ws R_Pr T_Pr 3, w ∈ xw_G := by
  intro w hw
  have e : u_ws R_Pr T_Pr 3 = [Cond.lays R_Pr R_Pr "lefts" "[I", Cond.lays R_Pr R_Pr "rights" "[I", Cond.lays R_Pr R_Pr "size" "I"] := by decide +kernel
  rw [e] at hw
  simp only [List.mem_cons, List.not_mem_nil, or_false] at hw
  rcases hw with rfl | rfl | rfl
  · exact kw_222
  · exact kw_224
  · exact kw_226
theorem df_Pr : ∀ j, j < 3 → defaultValue (ty_Pr j) = vp_V [.null, .null, .int 0] j := by
  intro j hj
  rcases (show j = 0 ∨ j = 1 ∨ j = 2 by omega) with rfl | rfl | rfl <;> rfl
theorem ck_Pu : XC 5 R_Pu T_Pu 3 ty_Pu := ⟨rfl, tk_Pu, nm_Pu⟩
theorem hin_Pu : ∀ w ∈ u_ws R_Pu T_Pu 3, w ∈ xw_G := by
  intro w hw
  have e : u_ws R_Pu T_Pu 3 = [Cond.lays R_Pu R_Pu "features" "[I", Cond.lays R_Pu R_Pu "parts" "[I", Cond.lays R_Pu R_Pu "size" "I"] := by decide +kernel
  rw [e] at hw
  simp only [List.mem_cons, List.not_mem_nil, or_false] at hw
  rcases hw with rfl | rfl | rfl
  · exact kw_194
  · exact kw_196
  · exact kw_198
theorem df_Pu : ∀ j, j < 3 → defaultValue (ty_Pu j) = vp_V [.null, .null, .int 0] j := by
  intro j hj
  rcases (show j = 0 ∨ j = 1 ∨ j = 2 by omega) with rfl | rfl | rfl <;> rfl
theorem ck_Tr : XC 6 R_Tr T_Tr 6 ty_Tr := ⟨rfl, tk_Tr, nm_Tr⟩
theorem hin_Tr : ∀ w ∈ u_ws R_Tr T_Tr 6, w ∈ xw_G := by
  intro w hw
  have e : u_ws R_Tr T_Tr 6 = [Cond.laysFinal R_Tr R_Tr "nodes" "LTreeStore$Nodes;", Cond.laysFinal R_Tr R_Tr "pairs" "LTreeStore$Pairs;", Cond.laysFinal R_Tr R_Tr "bound" "LTreeStore$Leaders;", Cond.lays R_Tr R_Tr "up" "[I", Cond.lays R_Tr R_Tr "bodies" "[I", Cond.lays R_Tr R_Tr "hit" "[I"] := by decide +kernel
  rw [e] at hw
  simp only [List.mem_cons, List.not_mem_nil, or_false] at hw
  rcases hw with rfl | rfl | rfl | rfl | rfl | rfl
  · exact kw_238
  · exact kw_240
  · exact kw_242
  · exact kw_244
  · exact kw_246
  · exact kw_248
theorem df_Tr : ∀ j, j < 6 → defaultValue (ty_Tr j) = vp_V [.null, .null, .null, .null, .null, .null] j := by
  intro j hj
  rcases (show j = 0 ∨ j = 1 ∨ j = 2 ∨ j = 3 ∨ j = 4 ∨ j = 5 by omega) with rfl | rfl | rfl | rfl | rfl | rfl <;> rfl
theorem ck_Ts : XC 7 R_Ts T_Ts 5 ty_Ts := ⟨rfl, tk_Ts, nm_Ts⟩
theorem hin_Ts : ∀ w ∈ u_ws R_Ts T_Ts 5, w ∈ xw_G := by
  intro w hw
  have e : u_ws R_Ts T_Ts 5 = [Cond.laysFinal R_Ts R_Ts "nodes" "LTreeStore$Nodes;", Cond.laysFinal R_Ts R_Ts "pushed" "LTreeStore$Pushed;", Cond.laysFinal R_Ts R_Ts "trial" "LTreeStore$Trial;", Cond.laysFinal R_Ts R_Ts "likeness" "LTreeStore$Likeness;", Cond.laysFinal R_Ts R_Ts "touchedLeaders" "LTreeStore$Leaders;"] := by decide +kernel
  rw [e] at hw
  simp only [List.mem_cons, List.not_mem_nil, or_false] at hw
  rcases hw with rfl | rfl | rfl | rfl | rfl
  · exact kw_279
  · exact kw_281
  · exact kw_283
  · exact kw_285
  · exact kw_287
theorem df_Ts : ∀ j, j < 5 → defaultValue (ty_Ts j) = vp_V [.null, .null, .null, .null, .null] j := by
  intro j hj
  rcases (show j = 0 ∨ j = 1 ∨ j = 2 ∨ j = 3 ∨ j = 4 by omega) with rfl | rfl | rfl | rfl | rfl <;> rfl
theorem ck_Md : XC 8 R_Md T_Md 26 ty_Md := ⟨rfl, tk_Md, nm_Md⟩
theorem hin_Md : ∀ w ∈ u_ws R_Md T_Md 26, w ∈ xw_G := by
  intro w hw
  have e : u_ws R_Md T_Md 26 = [Cond.laysFinal R_Md R_Md "kinds" "[B", Cond.laysFinal R_Md R_Md "values" "[I", Cond.laysFinal R_Md R_Md "firsts" "[I", Cond.laysFinal R_Md R_Md "manies" "[I", Cond.laysFinal R_Md R_Md "said" "[Z", Cond.laysFinal R_Md R_Md "marked" "[Z", Cond.laysFinal R_Md R_Md "leaders" "[I", Cond.laysFinal R_Md R_Md "trial" "[I", Cond.laysFinal R_Md R_Md "shown" "[I", Cond.lays R_Md R_Md "end" "I", Cond.lays R_Md R_Md "nodes" "I", Cond.laysFinal R_Md R_Md "features" "[I", Cond.laysFinal R_Md R_Md "parts" "[I", Cond.lays R_Md R_Md "fields" "I", Cond.laysFinal R_Md R_Md "pushedFeatures" "[I", Cond.laysFinal R_Md R_Md "pushedParts" "[I", Cond.lays R_Md R_Md "pushed" "I", Cond.laysFinal R_Md R_Md "touched" "[I", Cond.lays R_Md R_Md "touches" "I", Cond.laysFinal R_Md R_Md "reached" "[I", Cond.laysFinal R_Md R_Md "blocks" "[I", Cond.laysFinal R_Md R_Md "newBlocks" "[I", Cond.laysFinal R_Md R_Md "places" "[I", Cond.lays R_Md R_Md "written" "[I", Cond.lays R_Md R_Md "other" "[I", Cond.lays R_Md R_Md "length" "I"] := by decide +kernel
  rw [e] at hw
  simp only [List.mem_cons, List.not_mem_nil, or_false] at hw
  rcases hw with rfl | rfl | rfl | rfl | rfl | rfl | rfl | rfl | rfl | rfl | rfl | rfl | rfl | rfl | rfl | rfl | rfl | rfl | rfl | rfl | rfl | rfl | rfl | rfl | rfl | rfl
  · exact kw_660
  · exact kw_662
  · exact kw_664
  · exact kw_666
  · exact kw_668
  · exact kw_670
  · exact kw_672
  · exact kw_674
  · exact kw_676
  · exact kw_678
  · exact kw_680
  · exact kw_682
  · exact kw_684
  · exact kw_686
  · exact kw_688
  · exact kw_690
  · exact kw_692
  · exact kw_694
  · exact kw_696
  · exact kw_698
  · exact kw_700
  · exact kw_702
  · exact kw_704
  · exact kw_706
  · exact kw_708
  · exact kw_710
theorem df_Md : ∀ j, j < 26 → defaultValue (ty_Md j) = vp_V [.null, .null, .null, .null, .null, .null, .null, .null, .null, .int 0, .int 0, .null, .null, .int 0, .null, .null, .int 0, .null, .int 0, .null, .null, .null, .null, .null, .null, .int 0] j := by
  intro j hj
  rcases (show j = 0 ∨ j = 1 ∨ j = 2 ∨ j = 3 ∨ j = 4 ∨ j = 5 ∨ j = 6 ∨ j = 7 ∨ j = 8 ∨ j = 9 ∨ j = 10 ∨ j = 11 ∨ j = 12 ∨ j = 13 ∨ j = 14 ∨ j = 15 ∨ j = 16 ∨ j = 17 ∨ j = 18 ∨ j = 19 ∨ j = 20 ∨ j = 21 ∨ j = 22 ∨ j = 23 ∨ j = 24 ∨ j = 25 by omega) with rfl | rfl | rfl | rfl | rfl | rfl | rfl | rfl | rfl | rfl | rfl | rfl | rfl | rfl | rfl | rfl | rfl | rfl | rfl | rfl | rfl | rfl | rfl | rfl | rfl | rfl <;> rfl
