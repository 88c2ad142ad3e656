theorem wg26 : Cond.instantiable "WeighedHall" 18 ∈ GT := gt_mem 146 (by decide +kernel) rfl
theorem wg25 : Cond.classLink "WeighedHallLaw" 8 "WeighedHall" ∈ GT := gt_mem 145 (by decide +kernel) rfl
theorem wg30 : Cond.methodLink "WeighedHall" 1 ⟨"java/lang/Object", "<init>", "()V"⟩ ∈ GT := gt_mem 150 (by decide +kernel) rfl
theorem wg31 : Cond.instanceMethod ⟨"java/lang/Object", "<init>", "()V"⟩ ∈ GT := gt_mem 151 (by decide +kernel) rfl
theorem wg32 : Cond.code ⟨"java/lang/Object", "<init>", "()V"⟩ object_method_1_code 1 (Option.none : Option FieldType) ∈ GT := gt_mem 152 (by decide +kernel) rfl
theorem wg34 : Cond.instantiable "WeighedHall$Tape" 7 ∈ GT := gt_mem 154 (by decide +kernel) rfl
theorem wg33 : Cond.classLink "WeighedHall" 7 "WeighedHall$Tape" ∈ GT := gt_mem 153 (by decide +kernel) rfl
theorem wg38 : Cond.methodLink "WeighedHall$Tape" 3 ⟨"java/lang/Object", "<init>", "()V"⟩ ∈ GT := gt_mem 158 (by decide +kernel) rfl
theorem wg64 : Cond.arrayClass .byte ∈ GT := gt_mem 184 (by decide +kernel) rfl
theorem wg37 : Cond.code ⟨"WeighedHall$Tape", "<init>", "()V"⟩ prog_11_method_1_code 1 (Option.none : Option FieldType) ∈ GT := gt_mem 157 (by decide +kernel) rfl
theorem wn35 : Cond.methodLinkNest "WeighedHall" 9 ⟨"WeighedHall$Tape", "<init>", "()V"⟩ "WeighedHall" ∈ NT := nt_mem 35 (by decide +kernel) rfl
theorem wg36 : Cond.instanceMethod ⟨"WeighedHall$Tape", "<init>", "()V"⟩ ∈ GT := gt_mem 156 (by decide +kernel) rfl
theorem wg66 : Cond.instantiable "WeighedHall$Plan" 15 ∈ GT := gt_mem 186 (by decide +kernel) rfl
theorem wg65 : Cond.classLink "WeighedHall" 16 "WeighedHall$Plan" ∈ GT := gt_mem 185 (by decide +kernel) rfl
theorem wg70 : Cond.methodLink "WeighedHall$Plan" 3 ⟨"java/lang/Object", "<init>", "()V"⟩ ∈ GT := gt_mem 190 (by decide +kernel) rfl
theorem wg165 : Cond.arrayClass .int ∈ GT := gt_mem 285 (by decide +kernel) rfl
theorem wg69 : Cond.code ⟨"WeighedHall$Plan", "<init>", "()V"⟩ prog_8_method_1_code 1 (Option.none : Option FieldType) ∈ GT := gt_mem 189 (by decide +kernel) rfl
theorem wn67 : Cond.methodLinkNest "WeighedHall" 18 ⟨"WeighedHall$Plan", "<init>", "()V"⟩ "WeighedHall" ∈ NT := nt_mem 67 (by decide +kernel) rfl
theorem wg68 : Cond.instanceMethod ⟨"WeighedHall$Plan", "<init>", "()V"⟩ ∈ GT := gt_mem 188 (by decide +kernel) rfl
theorem wg167 : Cond.instantiable "WeighedHall$Loans" 5 ∈ GT := gt_mem 287 (by decide +kernel) rfl
theorem wg166 : Cond.classLink "WeighedHall" 26 "WeighedHall$Loans" ∈ GT := gt_mem 286 (by decide +kernel) rfl
theorem wg171 : Cond.methodLink "WeighedHall$Loans" 3 ⟨"java/lang/Object", "<init>", "()V"⟩ ∈ GT := gt_mem 291 (by decide +kernel) rfl
theorem wg170 : Cond.code ⟨"WeighedHall$Loans", "<init>", "()V"⟩ prog_7_method_1_code 1 (Option.none : Option FieldType) ∈ GT := gt_mem 290 (by decide +kernel) rfl
theorem wn168 : Cond.methodLinkNest "WeighedHall" 28 ⟨"WeighedHall$Loans", "<init>", "()V"⟩ "WeighedHall" ∈ NT := nt_mem 168 (by decide +kernel) rfl
theorem wg169 : Cond.instanceMethod ⟨"WeighedHall$Loans", "<init>", "()V"⟩ ∈ GT := gt_mem 289 (by decide +kernel) rfl
theorem wg195 : Cond.instantiable "WeighedHall$Ballots" 4 ∈ GT := gt_mem 315 (by decide +kernel) rfl
theorem wg194 : Cond.classLink "WeighedHall" 36 "WeighedHall$Ballots" ∈ GT := gt_mem 314 (by decide +kernel) rfl
theorem wg199 : Cond.methodLink "WeighedHall$Ballots" 3 ⟨"java/lang/Object", "<init>", "()V"⟩ ∈ GT := gt_mem 319 (by decide +kernel) rfl
theorem wg198 : Cond.code ⟨"WeighedHall$Ballots", "<init>", "()V"⟩ prog_2_method_1_code 1 (Option.none : Option FieldType) ∈ GT := gt_mem 318 (by decide +kernel) rfl
theorem wn196 : Cond.methodLinkNest "WeighedHall" 38 ⟨"WeighedHall$Ballots", "<init>", "()V"⟩ "WeighedHall" ∈ NT := nt_mem 196 (by decide +kernel) rfl
theorem wg197 : Cond.instanceMethod ⟨"WeighedHall$Ballots", "<init>", "()V"⟩ ∈ GT := gt_mem 317 (by decide +kernel) rfl
theorem wg221 : Cond.instantiable "WeighedHall$Chronicle" 5 ∈ GT := gt_mem 341 (by decide +kernel) rfl
theorem wg220 : Cond.classLink "WeighedHall" 51 "WeighedHall$Chronicle" ∈ GT := gt_mem 340 (by decide +kernel) rfl
theorem wg225 : Cond.methodLink "WeighedHall$Chronicle" 3 ⟨"java/lang/Object", "<init>", "()V"⟩ ∈ GT := gt_mem 345 (by decide +kernel) rfl
theorem wg227 : Cond.instantiable "WeighedHall$Sitting" 9 ∈ GT := gt_mem 347 (by decide +kernel) rfl
theorem wg226 : Cond.classLink "WeighedHall$Chronicle" 9 "WeighedHall$Sitting" ∈ GT := gt_mem 346 (by decide +kernel) rfl
theorem wg231 : Cond.methodLink "WeighedHall$Sitting" 3 ⟨"java/lang/Object", "<init>", "()V"⟩ ∈ GT := gt_mem 351 (by decide +kernel) rfl
theorem wg232 : Cond.classLink "WeighedHall$Sitting" 9 "WeighedHall$Plan" ∈ GT := gt_mem 352 (by decide +kernel) rfl
theorem wn233 : Cond.methodLinkNest "WeighedHall$Sitting" 11 ⟨"WeighedHall$Plan", "<init>", "()V"⟩ "WeighedHall" ∈ NT := nt_mem 233 (by decide +kernel) rfl
theorem wg234 : Cond.classLink "WeighedHall$Sitting" 18 "WeighedHall$Loans" ∈ GT := gt_mem 354 (by decide +kernel) rfl
theorem wn235 : Cond.methodLinkNest "WeighedHall$Sitting" 20 ⟨"WeighedHall$Loans", "<init>", "()V"⟩ "WeighedHall" ∈ NT := nt_mem 235 (by decide +kernel) rfl
theorem wg230 : Cond.code ⟨"WeighedHall$Sitting", "<init>", "()V"⟩ prog_10_method_1_code 1 (Option.none : Option FieldType) ∈ GT := gt_mem 350 (by decide +kernel) rfl
theorem wn228 : Cond.methodLinkNest "WeighedHall$Chronicle" 11 ⟨"WeighedHall$Sitting", "<init>", "()V"⟩ "WeighedHall" ∈ NT := nt_mem 228 (by decide +kernel) rfl
theorem wg229 : Cond.instanceMethod ⟨"WeighedHall$Sitting", "<init>", "()V"⟩ ∈ GT := gt_mem 349 (by decide +kernel) rfl
theorem wg224 : Cond.code ⟨"WeighedHall$Chronicle", "<init>", "()V"⟩ prog_5_method_1_code 1 (Option.none : Option FieldType) ∈ GT := gt_mem 344 (by decide +kernel) rfl
theorem wn222 : Cond.methodLinkNest "WeighedHall" 53 ⟨"WeighedHall$Chronicle", "<init>", "()V"⟩ "WeighedHall" ∈ NT := nt_mem 222 (by decide +kernel) rfl
theorem wg223 : Cond.instanceMethod ⟨"WeighedHall$Chronicle", "<init>", "()V"⟩ ∈ GT := gt_mem 343 (by decide +kernel) rfl
theorem wg287 : Cond.classLink "WeighedHall" 58 "WeighedHall$Sitting" ∈ GT := gt_mem 407 (by decide +kernel) rfl
theorem wn288 : Cond.methodLinkNest "WeighedHall" 60 ⟨"WeighedHall$Sitting", "<init>", "()V"⟩ "WeighedHall" ∈ NT := nt_mem 288 (by decide +kernel) rfl
theorem wg290 : Cond.instantiable "WeighedHall$Carrying" 8 ∈ GT := gt_mem 410 (by decide +kernel) rfl
theorem wg289 : Cond.classLink "WeighedHall" 68 "WeighedHall$Carrying" ∈ GT := gt_mem 409 (by decide +kernel) rfl
theorem wg294 : Cond.methodLink "WeighedHall$Carrying" 3 ⟨"java/lang/Object", "<init>", "()V"⟩ ∈ GT := gt_mem 414 (by decide +kernel) rfl
theorem wg293 : Cond.code ⟨"WeighedHall$Carrying", "<init>", "()V"⟩ prog_4_method_1_code 1 (Option.none : Option FieldType) ∈ GT := gt_mem 413 (by decide +kernel) rfl
theorem wn291 : Cond.methodLinkNest "WeighedHall" 70 ⟨"WeighedHall$Carrying", "<init>", "()V"⟩ "WeighedHall" ∈ NT := nt_mem 291 (by decide +kernel) rfl
theorem wg292 : Cond.instanceMethod ⟨"WeighedHall$Carrying", "<init>", "()V"⟩ ∈ GT := gt_mem 412 (by decide +kernel) rfl
theorem wg323 : Cond.instantiable "WeighedHall$Bringing" 3 ∈ GT := gt_mem 443 (by decide +kernel) rfl
theorem wg322 : Cond.classLink "WeighedHall" 75 "WeighedHall$Bringing" ∈ GT := gt_mem 442 (by decide +kernel) rfl
theorem wg327 : Cond.methodLink "WeighedHall$Bringing" 3 ⟨"java/lang/Object", "<init>", "()V"⟩ ∈ GT := gt_mem 447 (by decide +kernel) rfl
theorem wg326 : Cond.code ⟨"WeighedHall$Bringing", "<init>", "()V"⟩ prog_3_method_1_code 1 (Option.none : Option FieldType) ∈ GT := gt_mem 446 (by decide +kernel) rfl
theorem wn324 : Cond.methodLinkNest "WeighedHall" 77 ⟨"WeighedHall$Bringing", "<init>", "()V"⟩ "WeighedHall" ∈ NT := nt_mem 324 (by decide +kernel) rfl
theorem wg325 : Cond.instanceMethod ⟨"WeighedHall$Bringing", "<init>", "()V"⟩ ∈ GT := gt_mem 445 (by decide +kernel) rfl
theorem wg339 : Cond.instantiable "WeighedHall$Scales" 5 ∈ GT := gt_mem 459 (by decide +kernel) rfl
theorem wg338 : Cond.classLink "WeighedHall" 82 "WeighedHall$Scales" ∈ GT := gt_mem 458 (by decide +kernel) rfl
theorem wg343 : Cond.methodLink "WeighedHall$Scales" 3 ⟨"java/lang/Object", "<init>", "()V"⟩ ∈ GT := gt_mem 463 (by decide +kernel) rfl
theorem wg342 : Cond.code ⟨"WeighedHall$Scales", "<init>", "()V"⟩ prog_9_method_1_code 1 (Option.none : Option FieldType) ∈ GT := gt_mem 462 (by decide +kernel) rfl
theorem wn340 : Cond.methodLinkNest "WeighedHall" 84 ⟨"WeighedHall$Scales", "<init>", "()V"⟩ "WeighedHall" ∈ NT := nt_mem 340 (by decide +kernel) rfl
theorem wg341 : Cond.instanceMethod ⟨"WeighedHall$Scales", "<init>", "()V"⟩ ∈ GT := gt_mem 461 (by decide +kernel) rfl
theorem wg361 : Cond.instantiable "WeighedHall$Hollows" 7 ∈ GT := gt_mem 481 (by decide +kernel) rfl
theorem wg360 : Cond.classLink "WeighedHall" 89 "WeighedHall$Hollows" ∈ GT := gt_mem 480 (by decide +kernel) rfl
theorem wg365 : Cond.methodLink "WeighedHall$Hollows" 3 ⟨"java/lang/Object", "<init>", "()V"⟩ ∈ GT := gt_mem 485 (by decide +kernel) rfl
theorem wg364 : Cond.code ⟨"WeighedHall$Hollows", "<init>", "()V"⟩ prog_6_method_1_code 1 (Option.none : Option FieldType) ∈ GT := gt_mem 484 (by decide +kernel) rfl
theorem wn362 : Cond.methodLinkNest "WeighedHall" 91 ⟨"WeighedHall$Hollows", "<init>", "()V"⟩ "WeighedHall" ∈ NT := nt_mem 362 (by decide +kernel) rfl
theorem wg363 : Cond.instanceMethod ⟨"WeighedHall$Hollows", "<init>", "()V"⟩ ∈ GT := gt_mem 483 (by decide +kernel) rfl
theorem wg29 : Cond.code ⟨"WeighedHall", "<init>", "()V"⟩ prog_1_method_1_code 2 (Option.none : Option FieldType) ∈ GT := gt_mem 149 (by decide +kernel) rfl
theorem wg27 : Cond.methodLink "WeighedHallLaw" 84 ⟨"WeighedHall", "<init>", "()V"⟩ ∈ GT := gt_mem 147 (by decide +kernel) rfl
theorem wg28 : Cond.instanceMethod ⟨"WeighedHall", "<init>", "()V"⟩ ∈ GT := gt_mem 148 (by decide +kernel) rfl
theorem wg1192 : Cond.instantiable "WeighedHallModel" 46 ∈ GT := gt_mem 1312 (by decide +kernel) rfl
theorem wg1191 : Cond.classLink "WeighedHallLaw" 85 "WeighedHallModel" ∈ GT := gt_mem 1311 (by decide +kernel) rfl
theorem wg1196 : Cond.methodLink "WeighedHallModel" 1 ⟨"java/lang/Object", "<init>", "()V"⟩ ∈ GT := gt_mem 1316 (by decide +kernel) rfl
theorem wg1197 : Cond.classLink "WeighedHallModel" 26 "[[I" ∈ GT := gt_mem 1317 (by decide +kernel) rfl
theorem wg1199 : Cond.classLink "WeighedHallModel" 82 "[[[I" ∈ GT := gt_mem 1319 (by decide +kernel) rfl
theorem wg1340 : Cond.arrayClass .boolean ∈ GT := gt_mem 1460 (by decide +kernel) rfl
theorem wg1195 : Cond.code ⟨"WeighedHallModel", "<init>", "()V"⟩ prog_13_method_1_code 1 (Option.none : Option FieldType) ∈ GT := gt_mem 1315 (by decide +kernel) rfl
theorem wg1193 : Cond.methodLink "WeighedHallLaw" 87 ⟨"WeighedHallModel", "<init>", "()V"⟩ ∈ GT := gt_mem 1313 (by decide +kernel) rfl
theorem wg1194 : Cond.instanceMethod ⟨"WeighedHallModel", "<init>", "()V"⟩ ∈ GT := gt_mem 1314 (by decide +kernel) rfl
theorem wg1654 : Cond.arrayClass .long ∈ GT := gt_mem 1774 (by decide +kernel) rfl
theorem d_L_law_0 : decode cL_law 0 = .ok (.new 8, 3) := by decide +kernel
theorem d_L_law_3 : decode cL_law 3 = .ok (.dup, 1) := by decide +kernel
theorem d_L_law_4 : decode cL_law 4 = .ok (.invokespecial 84, 3) := by decide +kernel
theorem d_L_law_7 : decode cL_law 7 = .ok (.astore_n 1, 1) := by decide +kernel
theorem d_L_law_8 : decode cL_law 8 = .ok (.new 85, 3) := by decide +kernel
theorem d_L_law_11 : decode cL_law 11 = .ok (.dup, 1) := by decide +kernel
theorem d_L_law_12 : decode cL_law 12 = .ok (.invokespecial 87, 3) := by decide +kernel
theorem d_L_law_15 : decode cL_law 15 = .ok (.astore_n 2, 1) := by decide +kernel
theorem d_L_law_16 : decode cL_law 16 = .ok (.iconst 1, 1) := by decide +kernel
theorem d_L_law_17 : decode cL_law 17 = .ok (.newarray .long, 2) := by decide +kernel
theorem d_L_law_19 : decode cL_law 19 = .ok (.astore_n 3, 1) := by decide +kernel
theorem d_L_law_20 : decode cL_law 20 = .ok (.iconst 0, 1) := by decide +kernel
theorem d_L_law_21 : decode cL_law 21 = .ok (.istore 4, 2) := by decide +kernel
theorem d_X10_init_0 : decode cX10_init 0 = .ok (.aload_n 0, 1) := by decide +kernel
theorem d_X10_init_1 : decode cX10_init 1 = .ok (.invokespecial 1, 3) := by decide +kernel
theorem d_X10_init_4 : decode cX10_init 4 = .ok (.aload_n 0, 1) := by decide +kernel
theorem d_X10_init_5 : decode cX10_init 5 = .ok (.new 7, 3) := by decide +kernel
theorem d_X10_init_8 : decode cX10_init 8 = .ok (.dup, 1) := by decide +kernel
theorem d_X10_init_9 : decode cX10_init 9 = .ok (.invokespecial 9, 3) := by decide +kernel
theorem d_X10_init_12 : decode cX10_init 12 = .ok (.putfield 10, 3) := by decide +kernel
theorem d_X10_init_15 : decode cX10_init 15 = .ok (.aload_n 0, 1) := by decide +kernel
theorem d_X10_init_16 : decode cX10_init 16 = .ok (.new 16, 3) := by decide +kernel
theorem d_X10_init_19 : decode cX10_init 19 = .ok (.dup, 1) := by decide +kernel
theorem d_X10_init_20 : decode cX10_init 20 = .ok (.invokespecial 18, 3) := by decide +kernel
theorem d_X10_init_23 : decode cX10_init 23 = .ok (.putfield 19, 3) := by decide +kernel
theorem d_X10_init_26 : decode cX10_init 26 = .ok (.aload_n 0, 1) := by decide +kernel
theorem d_X10_init_27 : decode cX10_init 27 = .ok (.new 16, 3) := by decide +kernel
theorem d_X10_init_30 : decode cX10_init 30 = .ok (.dup, 1) := by decide +kernel
theorem d_X10_init_31 : decode cX10_init 31 = .ok (.invokespecial 18, 3) := by decide +kernel
theorem d_X10_init_34 : decode cX10_init 34 = .ok (.putfield 23, 3) := by decide +kernel
theorem d_X10_init_37 : decode cX10_init 37 = .ok (.aload_n 0, 1) := by decide +kernel
theorem d_X10_init_38 : decode cX10_init 38 = .ok (.new 26, 3) := by decide +kernel
theorem d_X10_init_41 : decode cX10_init 41 = .ok (.dup, 1) := by decide +kernel
theorem d_X10_init_42 : decode cX10_init 42 = .ok (.invokespecial 28, 3) := by decide +kernel
theorem d_X10_init_45 : decode cX10_init 45 = .ok (.putfield 29, 3) := by decide +kernel
theorem d_X10_init_48 : decode cX10_init 48 = .ok (.aload_n 0, 1) := by decide +kernel
theorem d_X10_init_49 : decode cX10_init 49 = .ok (.new 26, 3) := by decide +kernel
theorem d_X10_init_52 : decode cX10_init 52 = .ok (.dup, 1) := by decide +kernel
theorem d_X10_init_53 : decode cX10_init 53 = .ok (.invokespecial 28, 3) := by decide +kernel
theorem d_X10_init_56 : decode cX10_init 56 = .ok (.putfield 33, 3) := by decide +kernel
theorem d_X10_init_59 : decode cX10_init 59 = .ok (.aload_n 0, 1) := by decide +kernel
theorem d_X10_init_60 : decode cX10_init 60 = .ok (.new 36, 3) := by decide +kernel
theorem d_X10_init_63 : decode cX10_init 63 = .ok (.dup, 1) := by decide +kernel
theorem d_X10_init_64 : decode cX10_init 64 = .ok (.invokespecial 38, 3) := by decide +kernel
theorem d_X10_init_67 : decode cX10_init 67 = .ok (.putfield 39, 3) := by decide +kernel
theorem d_X10_init_70 : decode cX10_init 70 = .ok (.aload_n 0, 1) := by decide +kernel
theorem d_X10_init_71 : decode cX10_init 71 = .ok (.iconst 3, 1) := by decide +kernel
theorem d_X10_init_72 : decode cX10_init 72 = .ok (.anewarray 26, 3) := by decide +kernel
theorem d_X10_init_75 : decode cX10_init 75 = .ok (.putfield 43, 3) := by decide +kernel
theorem d_X10_init_78 : decode cX10_init 78 = .ok (.aload_n 0, 1) := by decide +kernel
theorem d_X10_init_79 : decode cX10_init 79 = .ok (.iconst 3, 1) := by decide +kernel
theorem d_X10_init_80 : decode cX10_init 80 = .ok (.anewarray 36, 3) := by decide +kernel
theorem d_X10_init_83 : decode cX10_init 83 = .ok (.putfield 47, 3) := by decide +kernel
theorem d_X10_init_86 : decode cX10_init 86 = .ok (.aload_n 0, 1) := by decide +kernel
theorem d_X10_init_87 : decode cX10_init 87 = .ok (.new 51, 3) := by decide +kernel
theorem d_X10_init_90 : decode cX10_init 90 = .ok (.dup, 1) := by decide +kernel
theorem d_X10_init_91 : decode cX10_init 91 = .ok (.invokespecial 53, 3) := by decide +kernel
theorem d_X10_init_94 : decode cX10_init 94 = .ok (.putfield 54, 3) := by decide +kernel
theorem d_X10_init_97 : decode cX10_init 97 = .ok (.aload_n 0, 1) := by decide +kernel
theorem d_X10_init_98 : decode cX10_init 98 = .ok (.new 58, 3) := by decide +kernel
theorem d_X10_init_101 : decode cX10_init 101 = .ok (.dup, 1) := by decide +kernel
theorem d_X10_init_102 : decode cX10_init 102 = .ok (.invokespecial 60, 3) := by decide +kernel
theorem d_X10_init_105 : decode cX10_init 105 = .ok (.putfield 61, 3) := by decide +kernel
theorem d_X10_init_108 : decode cX10_init 108 = .ok (.aload_n 0, 1) := by decide +kernel
theorem d_X10_init_109 : decode cX10_init 109 = .ok (.new 58, 3) := by decide +kernel
theorem d_X10_init_112 : decode cX10_init 112 = .ok (.dup, 1) := by decide +kernel
theorem d_X10_init_113 : decode cX10_init 113 = .ok (.invokespecial 60, 3) := by decide +kernel
theorem d_X10_init_116 : decode cX10_init 116 = .ok (.putfield 65, 3) := by decide +kernel
theorem d_X10_init_119 : decode cX10_init 119 = .ok (.aload_n 0, 1) := by decide +kernel
theorem d_X10_init_120 : decode cX10_init 120 = .ok (.new 68, 3) := by decide +kernel
theorem d_X10_init_123 : decode cX10_init 123 = .ok (.dup, 1) := by decide +kernel
theorem d_X10_init_124 : decode cX10_init 124 = .ok (.invokespecial 70, 3) := by decide +kernel
theorem d_X10_init_127 : decode cX10_init 127 = .ok (.putfield 71, 3) := by decide +kernel
theorem d_X10_init_130 : decode cX10_init 130 = .ok (.aload_n 0, 1) := by decide +kernel
theorem d_X10_init_131 : decode cX10_init 131 = .ok (.new 75, 3) := by decide +kernel
theorem d_X10_init_134 : decode cX10_init 134 = .ok (.dup, 1) := by decide +kernel
theorem d_X10_init_135 : decode cX10_init 135 = .ok (.invokespecial 77, 3) := by decide +kernel
theorem d_X10_init_138 : decode cX10_init 138 = .ok (.putfield 78, 3) := by decide +kernel
theorem d_X10_init_141 : decode cX10_init 141 = .ok (.aload_n 0, 1) := by decide +kernel
theorem d_X10_init_142 : decode cX10_init 142 = .ok (.new 82, 3) := by decide +kernel
theorem d_X10_init_145 : decode cX10_init 145 = .ok (.dup, 1) := by decide +kernel
theorem d_X10_init_146 : decode cX10_init 146 = .ok (.invokespecial 84, 3) := by decide +kernel
theorem d_X10_init_149 : decode cX10_init 149 = .ok (.putfield 85, 3) := by decide +kernel
theorem d_X10_init_152 : decode cX10_init 152 = .ok (.aload_n 0, 1) := by decide +kernel
theorem d_X10_init_153 : decode cX10_init 153 = .ok (.new 89, 3) := by decide +kernel
theorem d_X10_init_156 : decode cX10_init 156 = .ok (.dup, 1) := by decide +kernel
theorem d_X10_init_157 : decode cX10_init 157 = .ok (.invokespecial 91, 3) := by decide +kernel
theorem d_X10_init_160 : decode cX10_init 160 = .ok (.putfield 92, 3) := by decide +kernel
theorem d_X10_init_163 : decode cX10_init 163 = .ok (.iconst 0, 1) := by decide +kernel
theorem d_X10_init_164 : decode cX10_init 164 = .ok (.istore_n 1, 1) := by decide +kernel
theorem d_X10_init_165 : decode cX10_init 165 = .ok (.iload_n 1, 1) := by decide +kernel
theorem d_X10_init_166 : decode cX10_init 166 = .ok (.iconst 3, 1) := by decide +kernel
theorem d_X10_init_167 : decode cX10_init 167 = .ok (.if_icmp .ge 35, 3) := by decide +kernel
theorem d_X10_init_170 : decode cX10_init 170 = .ok (.aload_n 0, 1) := by decide +kernel
theorem d_X10_init_171 : decode cX10_init 171 = .ok (.getfield 43, 3) := by decide +kernel
theorem d_X10_init_174 : decode cX10_init 174 = .ok (.iload_n 1, 1) := by decide +kernel
theorem d_X10_init_175 : decode cX10_init 175 = .ok (.new 26, 3) := by decide +kernel
theorem d_X10_init_178 : decode cX10_init 178 = .ok (.dup, 1) := by decide +kernel
theorem d_X10_init_179 : decode cX10_init 179 = .ok (.invokespecial 28, 3) := by decide +kernel
theorem d_X10_init_182 : decode cX10_init 182 = .ok (.aastore, 1) := by decide +kernel
theorem d_X10_init_183 : decode cX10_init 183 = .ok (.aload_n 0, 1) := by decide +kernel
theorem d_X10_init_184 : decode cX10_init 184 = .ok (.getfield 47, 3) := by decide +kernel
theorem d_X10_init_187 : decode cX10_init 187 = .ok (.iload_n 1, 1) := by decide +kernel
theorem d_X10_init_188 : decode cX10_init 188 = .ok (.new 36, 3) := by decide +kernel
theorem d_X10_init_191 : decode cX10_init 191 = .ok (.dup, 1) := by decide +kernel
theorem d_X10_init_192 : decode cX10_init 192 = .ok (.invokespecial 38, 3) := by decide +kernel
theorem d_X10_init_195 : decode cX10_init 195 = .ok (.aastore, 1) := by decide +kernel
theorem d_X10_init_196 : decode cX10_init 196 = .ok (.iinc 1 1, 3) := by decide +kernel
theorem d_X10_init_199 : decode cX10_init 199 = .ok (.goto (-34), 3) := by decide +kernel
theorem d_X10_init_202 : decode cX10_init 202 = .ok (.return_, 1) := by decide +kernel
theorem d_X9_init_0 : decode cX9_init 0 = .ok (.aload_n 0, 1) := by decide +kernel
theorem d_X9_init_1 : decode cX9_init 1 = .ok (.invokespecial 3, 3) := by decide +kernel
theorem d_X9_init_4 : decode cX9_init 4 = .ok (.aload_n 0, 1) := by decide +kernel
theorem d_X9_init_5 : decode cX9_init 5 = .ok (.sipush 600, 3) := by decide +kernel
theorem d_X9_init_8 : decode cX9_init 8 = .ok (.newarray .byte, 2) := by decide +kernel
theorem d_X9_init_10 : decode cX9_init 10 = .ok (.putfield 9, 3) := by decide +kernel
theorem d_X9_init_13 : decode cX9_init 13 = .ok (.aload_n 0, 1) := by decide +kernel
theorem d_X9_init_14 : decode cX9_init 14 = .ok (.iconst 0, 1) := by decide +kernel
theorem d_X9_init_15 : decode cX9_init 15 = .ok (.putfield 15, 3) := by decide +kernel
theorem d_X9_init_18 : decode cX9_init 18 = .ok (.aload_n 0, 1) := by decide +kernel
theorem d_X9_init_19 : decode cX9_init 19 = .ok (.iconst (-1), 1) := by decide +kernel
theorem d_X9_init_20 : decode cX9_init 20 = .ok (.putfield 19, 3) := by decide +kernel
theorem d_X9_init_23 : decode cX9_init 23 = .ok (.return_, 1) := by decide +kernel
theorem d_X6_init_0 : decode cX6_init 0 = .ok (.aload_n 0, 1) := by decide +kernel
theorem d_X6_init_1 : decode cX6_init 1 = .ok (.invokespecial 3, 3) := by decide +kernel
theorem d_X6_init_4 : decode cX6_init 4 = .ok (.aload_n 0, 1) := by decide +kernel
theorem d_X6_init_5 : decode cX6_init 5 = .ok (.bipush 10, 2) := by decide +kernel
theorem d_X6_init_7 : decode cX6_init 7 = .ok (.newarray .int, 2) := by decide +kernel
theorem d_X6_init_9 : decode cX6_init 9 = .ok (.putfield 9, 3) := by decide +kernel
theorem d_X6_init_12 : decode cX6_init 12 = .ok (.aload_n 0, 1) := by decide +kernel
theorem d_X6_init_13 : decode cX6_init 13 = .ok (.bipush 10, 2) := by decide +kernel
theorem d_X6_init_15 : decode cX6_init 15 = .ok (.newarray .int, 2) := by decide +kernel
theorem d_X6_init_17 : decode cX6_init 17 = .ok (.putfield 15, 3) := by decide +kernel
theorem d_X6_init_20 : decode cX6_init 20 = .ok (.aload_n 0, 1) := by decide +kernel
theorem d_X6_init_21 : decode cX6_init 21 = .ok (.bipush 14, 2) := by decide +kernel
theorem d_X6_init_23 : decode cX6_init 23 = .ok (.newarray .int, 2) := by decide +kernel
theorem d_X6_init_25 : decode cX6_init 25 = .ok (.putfield 18, 3) := by decide +kernel
theorem d_X6_init_28 : decode cX6_init 28 = .ok (.aload_n 0, 1) := by decide +kernel
theorem d_X6_init_29 : decode cX6_init 29 = .ok (.bipush 14, 2) := by decide +kernel
theorem d_X6_init_31 : decode cX6_init 31 = .ok (.newarray .int, 2) := by decide +kernel
theorem d_X6_init_33 : decode cX6_init 33 = .ok (.putfield 21, 3) := by decide +kernel
theorem d_X6_init_36 : decode cX6_init 36 = .ok (.aload_n 0, 1) := by decide +kernel
theorem d_X6_init_37 : decode cX6_init 37 = .ok (.bipush 14, 2) := by decide +kernel
theorem d_X6_init_39 : decode cX6_init 39 = .ok (.newarray .int, 2) := by decide +kernel
theorem d_X6_init_41 : decode cX6_init 41 = .ok (.putfield 24, 3) := by decide +kernel
theorem d_X6_init_44 : decode cX6_init 44 = .ok (.aload_n 0, 1) := by decide +kernel
theorem d_X6_init_45 : decode cX6_init 45 = .ok (.bipush 14, 2) := by decide +kernel
theorem d_X6_init_47 : decode cX6_init 47 = .ok (.newarray .int, 2) := by decide +kernel
theorem d_X6_init_49 : decode cX6_init 49 = .ok (.putfield 27, 3) := by decide +kernel
theorem d_X6_init_52 : decode cX6_init 52 = .ok (.aload_n 0, 1) := by decide +kernel
theorem d_X6_init_53 : decode cX6_init 53 = .ok (.iconst 3, 1) := by decide +kernel
theorem d_X6_init_54 : decode cX6_init 54 = .ok (.newarray .int, 2) := by decide +kernel
theorem d_X6_init_56 : decode cX6_init 56 = .ok (.putfield 30, 3) := by decide +kernel
theorem d_X6_init_59 : decode cX6_init 59 = .ok (.aload_n 0, 1) := by decide +kernel
theorem d_X6_init_60 : decode cX6_init 60 = .ok (.bipush 8, 2) := by decide +kernel
theorem d_X6_init_62 : decode cX6_init 62 = .ok (.newarray .int, 2) := by decide +kernel
theorem d_X6_init_64 : decode cX6_init 64 = .ok (.putfield 33, 3) := by decide +kernel
theorem d_X6_init_67 : decode cX6_init 67 = .ok (.aload_n 0, 1) := by decide +kernel
theorem d_X6_init_68 : decode cX6_init 68 = .ok (.bipush 8, 2) := by decide +kernel
theorem d_X6_init_70 : decode cX6_init 70 = .ok (.newarray .int, 2) := by decide +kernel
theorem d_X6_init_72 : decode cX6_init 72 = .ok (.putfield 36, 3) := by decide +kernel
theorem d_X6_init_75 : decode cX6_init 75 = .ok (.aload_n 0, 1) := by decide +kernel
theorem d_X6_init_76 : decode cX6_init 76 = .ok (.bipush 8, 2) := by decide +kernel
theorem d_X6_init_78 : decode cX6_init 78 = .ok (.newarray .int, 2) := by decide +kernel
theorem d_X6_init_80 : decode cX6_init 80 = .ok (.putfield 39, 3) := by decide +kernel
theorem d_X6_init_83 : decode cX6_init 83 = .ok (.return_, 1) := by decide +kernel
theorem d_X5_init_0 : decode cX5_init 0 = .ok (.aload_n 0, 1) := by decide +kernel
theorem d_X5_init_1 : decode cX5_init 1 = .ok (.invokespecial 3, 3) := by decide +kernel
theorem d_X5_init_4 : decode cX5_init 4 = .ok (.aload_n 0, 1) := by decide +kernel
theorem d_X5_init_5 : decode cX5_init 5 = .ok (.bipush 20, 2) := by decide +kernel
theorem d_X5_init_7 : decode cX5_init 7 = .ok (.newarray .int, 2) := by decide +kernel
theorem d_X5_init_9 : decode cX5_init 9 = .ok (.putfield 9, 3) := by decide +kernel
theorem d_X5_init_12 : decode cX5_init 12 = .ok (.aload_n 0, 1) := by decide +kernel
theorem d_X5_init_13 : decode cX5_init 13 = .ok (.bipush 20, 2) := by decide +kernel
theorem d_X5_init_15 : decode cX5_init 15 = .ok (.newarray .int, 2) := by decide +kernel
theorem d_X5_init_17 : decode cX5_init 17 = .ok (.putfield 15, 3) := by decide +kernel
theorem d_X5_init_20 : decode cX5_init 20 = .ok (.aload_n 0, 1) := by decide +kernel
theorem d_X5_init_21 : decode cX5_init 21 = .ok (.bipush 20, 2) := by decide +kernel
theorem d_X5_init_23 : decode cX5_init 23 = .ok (.newarray .int, 2) := by decide +kernel
theorem d_X5_init_25 : decode cX5_init 25 = .ok (.putfield 18, 3) := by decide +kernel
theorem d_X5_init_28 : decode cX5_init 28 = .ok (.aload_n 0, 1) := by decide +kernel
theorem d_X5_init_29 : decode cX5_init 29 = .ok (.bipush 20, 2) := by decide +kernel
theorem d_X5_init_31 : decode cX5_init 31 = .ok (.newarray .int, 2) := by decide +kernel
theorem d_X5_init_33 : decode cX5_init 33 = .ok (.putfield 21, 3) := by decide +kernel
theorem d_X5_init_36 : decode cX5_init 36 = .ok (.return_, 1) := by decide +kernel
theorem d_X0_init_0 : decode cX0_init 0 = .ok (.aload_n 0, 1) := by decide +kernel
theorem d_X0_init_1 : decode cX0_init 1 = .ok (.invokespecial 3, 3) := by decide +kernel
theorem d_X0_init_4 : decode cX0_init 4 = .ok (.aload_n 0, 1) := by decide +kernel
theorem d_X0_init_5 : decode cX0_init 5 = .ok (.bipush 9, 2) := by decide +kernel
theorem d_X0_init_7 : decode cX0_init 7 = .ok (.newarray .int, 2) := by decide +kernel
theorem d_X0_init_9 : decode cX0_init 9 = .ok (.putfield 9, 3) := by decide +kernel
theorem d_X0_init_12 : decode cX0_init 12 = .ok (.aload_n 0, 1) := by decide +kernel
theorem d_X0_init_13 : decode cX0_init 13 = .ok (.bipush 9, 2) := by decide +kernel
theorem d_X0_init_15 : decode cX0_init 15 = .ok (.newarray .int, 2) := by decide +kernel
theorem d_X0_init_17 : decode cX0_init 17 = .ok (.putfield 15, 3) := by decide +kernel
theorem d_X0_init_20 : decode cX0_init 20 = .ok (.aload_n 0, 1) := by decide +kernel
theorem d_X0_init_21 : decode cX0_init 21 = .ok (.bipush 9, 2) := by decide +kernel
theorem d_X0_init_23 : decode cX0_init 23 = .ok (.newarray .int, 2) := by decide +kernel
theorem d_X0_init_25 : decode cX0_init 25 = .ok (.putfield 18, 3) := by decide +kernel
theorem d_X0_init_28 : decode cX0_init 28 = .ok (.return_, 1) := by decide +kernel
theorem d_X3_init_0 : decode cX3_init 0 = .ok (.aload_n 0, 1) := by decide +kernel
theorem d_X3_init_1 : decode cX3_init 1 = .ok (.invokespecial 3, 3) := by decide +kernel
theorem d_X3_init_4 : decode cX3_init 4 = .ok (.aload_n 0, 1) := by decide +kernel
theorem d_X3_init_5 : decode cX3_init 5 = .ok (.new 9, 3) := by decide +kernel
theorem d_X3_init_8 : decode cX3_init 8 = .ok (.dup, 1) := by decide +kernel
theorem d_X3_init_9 : decode cX3_init 9 = .ok (.invokespecial 11, 3) := by decide +kernel
theorem d_X3_init_12 : decode cX3_init 12 = .ok (.putfield 12, 3) := by decide +kernel
theorem d_X3_init_15 : decode cX3_init 15 = .ok (.aload_n 0, 1) := by decide +kernel
theorem d_X3_init_16 : decode cX3_init 16 = .ok (.sipush 1680, 3) := by decide +kernel
theorem d_X3_init_19 : decode cX3_init 19 = .ok (.newarray .int, 2) := by decide +kernel
theorem d_X3_init_21 : decode cX3_init 21 = .ok (.putfield 18, 3) := by decide +kernel
theorem d_X3_init_24 : decode cX3_init 24 = .ok (.aload_n 0, 1) := by decide +kernel
theorem d_X3_init_25 : decode cX3_init 25 = .ok (.sipush 1200, 3) := by decide +kernel
theorem d_X3_init_28 : decode cX3_init 28 = .ok (.newarray .int, 2) := by decide +kernel
theorem d_X3_init_30 : decode cX3_init 30 = .ok (.putfield 22, 3) := by decide +kernel
theorem d_X3_init_33 : decode cX3_init 33 = .ok (.aload_n 0, 1) := by decide +kernel
theorem d_X3_init_34 : decode cX3_init 34 = .ok (.bipush 48, 2) := by decide +kernel
theorem d_X3_init_36 : decode cX3_init 36 = .ok (.newarray .int, 2) := by decide +kernel
theorem d_X3_init_38 : decode cX3_init 38 = .ok (.putfield 25, 3) := by decide +kernel
theorem d_X3_init_41 : decode cX3_init 41 = .ok (.return_, 1) := by decide +kernel
theorem d_X8_init_0 : decode cX8_init 0 = .ok (.aload_n 0, 1) := by decide +kernel
theorem d_X8_init_1 : decode cX8_init 1 = .ok (.invokespecial 3, 3) := by decide +kernel
theorem d_X8_init_4 : decode cX8_init 4 = .ok (.aload_n 0, 1) := by decide +kernel
theorem d_X8_init_5 : decode cX8_init 5 = .ok (.new 9, 3) := by decide +kernel
theorem d_X8_init_8 : decode cX8_init 8 = .ok (.dup, 1) := by decide +kernel
theorem d_X8_init_9 : decode cX8_init 9 = .ok (.invokespecial 11, 3) := by decide +kernel
theorem d_X8_init_12 : decode cX8_init 12 = .ok (.putfield 12, 3) := by decide +kernel
theorem d_X8_init_15 : decode cX8_init 15 = .ok (.aload_n 0, 1) := by decide +kernel
theorem d_X8_init_16 : decode cX8_init 16 = .ok (.new 18, 3) := by decide +kernel
theorem d_X8_init_19 : decode cX8_init 19 = .ok (.dup, 1) := by decide +kernel
theorem d_X8_init_20 : decode cX8_init 20 = .ok (.invokespecial 20, 3) := by decide +kernel
theorem d_X8_init_23 : decode cX8_init 23 = .ok (.putfield 21, 3) := by decide +kernel
theorem d_X8_init_26 : decode cX8_init 26 = .ok (.aload_n 0, 1) := by decide +kernel
theorem d_X8_init_27 : decode cX8_init 27 = .ok (.bipush 14, 2) := by decide +kernel
theorem d_X8_init_29 : decode cX8_init 29 = .ok (.newarray .int, 2) := by decide +kernel
theorem d_X8_init_31 : decode cX8_init 31 = .ok (.putfield 25, 3) := by decide +kernel
theorem d_X8_init_34 : decode cX8_init 34 = .ok (.aload_n 0, 1) := by decide +kernel
theorem d_X8_init_35 : decode cX8_init 35 = .ok (.bipush 14, 2) := by decide +kernel
theorem d_X8_init_37 : decode cX8_init 37 = .ok (.newarray .int, 2) := by decide +kernel
theorem d_X8_init_39 : decode cX8_init 39 = .ok (.putfield 29, 3) := by decide +kernel
theorem d_X8_init_42 : decode cX8_init 42 = .ok (.aload_n 0, 1) := by decide +kernel
theorem d_X8_init_43 : decode cX8_init 43 = .ok (.bipush 14, 2) := by decide +kernel
theorem d_X8_init_45 : decode cX8_init 45 = .ok (.newarray .int, 2) := by decide +kernel
theorem d_X8_init_47 : decode cX8_init 47 = .ok (.putfield 32, 3) := by decide +kernel
theorem d_X8_init_50 : decode cX8_init 50 = .ok (.aload_n 0, 1) := by decide +kernel
theorem d_X8_init_51 : decode cX8_init 51 = .ok (.bipush 10, 2) := by decide +kernel
theorem d_X8_init_53 : decode cX8_init 53 = .ok (.newarray .int, 2) := by decide +kernel
theorem d_X8_init_55 : decode cX8_init 55 = .ok (.putfield 35, 3) := by decide +kernel
theorem d_X8_init_58 : decode cX8_init 58 = .ok (.aload_n 0, 1) := by decide +kernel
theorem d_X8_init_59 : decode cX8_init 59 = .ok (.bipush 10, 2) := by decide +kernel
theorem d_X8_init_61 : decode cX8_init 61 = .ok (.newarray .int, 2) := by decide +kernel
theorem d_X8_init_63 : decode cX8_init 63 = .ok (.putfield 38, 3) := by decide +kernel
theorem d_X8_init_66 : decode cX8_init 66 = .ok (.aload_n 0, 1) := by decide +kernel
theorem d_X8_init_67 : decode cX8_init 67 = .ok (.bipush 10, 2) := by decide +kernel
theorem d_X8_init_69 : decode cX8_init 69 = .ok (.newarray .int, 2) := by decide +kernel
theorem d_X8_init_71 : decode cX8_init 71 = .ok (.putfield 41, 3) := by decide +kernel
theorem d_X8_init_74 : decode cX8_init 74 = .ok (.aload_n 0, 1) := by decide +kernel
theorem d_X8_init_75 : decode cX8_init 75 = .ok (.iconst 3, 1) := by decide +kernel
theorem d_X8_init_76 : decode cX8_init 76 = .ok (.newarray .int, 2) := by decide +kernel
theorem d_X8_init_78 : decode cX8_init 78 = .ok (.putfield 44, 3) := by decide +kernel
theorem d_X8_init_81 : decode cX8_init 81 = .ok (.return_, 1) := by decide +kernel
theorem d_X2_init_0 : decode cX2_init 0 = .ok (.aload_n 0, 1) := by decide +kernel
theorem d_X2_init_1 : decode cX2_init 1 = .ok (.invokespecial 3, 3) := by decide +kernel
theorem d_X2_init_4 : decode cX2_init 4 = .ok (.aload_n 0, 1) := by decide +kernel
theorem d_X2_init_5 : decode cX2_init 5 = .ok (.bipush 10, 2) := by decide +kernel
theorem d_X2_init_7 : decode cX2_init 7 = .ok (.newarray .int, 2) := by decide +kernel
theorem d_X2_init_9 : decode cX2_init 9 = .ok (.putfield 11, 3) := by decide +kernel
theorem d_X2_init_12 : decode cX2_init 12 = .ok (.aload_n 0, 1) := by decide +kernel
theorem d_X2_init_13 : decode cX2_init 13 = .ok (.bipush 10, 2) := by decide +kernel
theorem d_X2_init_15 : decode cX2_init 15 = .ok (.newarray .int, 2) := by decide +kernel
theorem d_X2_init_17 : decode cX2_init 17 = .ok (.putfield 15, 3) := by decide +kernel
theorem d_X2_init_20 : decode cX2_init 20 = .ok (.aload_n 0, 1) := by decide +kernel
theorem d_X2_init_21 : decode cX2_init 21 = .ok (.sipush 1024, 3) := by decide +kernel
theorem d_X2_init_24 : decode cX2_init 24 = .ok (.newarray .int, 2) := by decide +kernel
theorem d_X2_init_26 : decode cX2_init 26 = .ok (.putfield 18, 3) := by decide +kernel
theorem d_X2_init_29 : decode cX2_init 29 = .ok (.aload_n 0, 1) := by decide +kernel
theorem d_X2_init_30 : decode cX2_init 30 = .ok (.sipush 1024, 3) := by decide +kernel
theorem d_X2_init_33 : decode cX2_init 33 = .ok (.newarray .int, 2) := by decide +kernel
theorem d_X2_init_35 : decode cX2_init 35 = .ok (.putfield 21, 3) := by decide +kernel
theorem d_X2_init_38 : decode cX2_init 38 = .ok (.return_, 1) := by decide +kernel
theorem d_X1_init_0 : decode cX1_init 0 = .ok (.aload_n 0, 1) := by decide +kernel
theorem d_X1_init_1 : decode cX1_init 1 = .ok (.invokespecial 3, 3) := by decide +kernel
theorem d_X1_init_4 : decode cX1_init 4 = .ok (.aload_n 0, 1) := by decide +kernel
theorem d_X1_init_5 : decode cX1_init 5 = .ok (.bipush 14, 2) := by decide +kernel
theorem d_X1_init_7 : decode cX1_init 7 = .ok (.newarray .int, 2) := by decide +kernel
theorem d_X1_init_9 : decode cX1_init 9 = .ok (.putfield 9, 3) := by decide +kernel
theorem d_X1_init_12 : decode cX1_init 12 = .ok (.aload_n 0, 1) := by decide +kernel
theorem d_X1_init_13 : decode cX1_init 13 = .ok (.sipush 1387, 3) := by decide +kernel
theorem d_X1_init_16 : decode cX1_init 16 = .ok (.newarray .int, 2) := by decide +kernel
theorem d_X1_init_18 : decode cX1_init 18 = .ok (.putfield 15, 3) := by decide +kernel
theorem d_X1_init_21 : decode cX1_init 21 = .ok (.return_, 1) := by decide +kernel
theorem d_X7_init_0 : decode cX7_init 0 = .ok (.aload_n 0, 1) := by decide +kernel
theorem d_X7_init_1 : decode cX7_init 1 = .ok (.invokespecial 3, 3) := by decide +kernel
theorem d_X7_init_4 : decode cX7_init 4 = .ok (.aload_n 0, 1) := by decide +kernel
theorem d_X7_init_5 : decode cX7_init 5 = .ok (.bipush 10, 2) := by decide +kernel
theorem d_X7_init_7 : decode cX7_init 7 = .ok (.newarray .int, 2) := by decide +kernel
theorem d_X7_init_9 : decode cX7_init 9 = .ok (.putfield 9, 3) := by decide +kernel
theorem d_X7_init_12 : decode cX7_init 12 = .ok (.aload_n 0, 1) := by decide +kernel
theorem d_X7_init_13 : decode cX7_init 13 = .ok (.sipush 1024, 3) := by decide +kernel
theorem d_X7_init_16 : decode cX7_init 16 = .ok (.newarray .int, 2) := by decide +kernel
theorem d_X7_init_18 : decode cX7_init 18 = .ok (.putfield 15, 3) := by decide +kernel
theorem d_X7_init_21 : decode cX7_init 21 = .ok (.aload_n 0, 1) := by decide +kernel
theorem d_X7_init_22 : decode cX7_init 22 = .ok (.iconst 4, 1) := by decide +kernel
theorem d_X7_init_23 : decode cX7_init 23 = .ok (.newarray .int, 2) := by decide +kernel
theorem d_X7_init_25 : decode cX7_init 25 = .ok (.putfield 18, 3) := by decide +kernel
theorem d_X7_init_28 : decode cX7_init 28 = .ok (.return_, 1) := by decide +kernel
theorem d_X4_init_0 : decode cX4_init 0 = .ok (.aload_n 0, 1) := by decide +kernel
theorem d_X4_init_1 : decode cX4_init 1 = .ok (.invokespecial 3, 3) := by decide +kernel
theorem d_X4_init_4 : decode cX4_init 4 = .ok (.aload_n 0, 1) := by decide +kernel
theorem d_X4_init_5 : decode cX4_init 5 = .ok (.bipush 9, 2) := by decide +kernel
theorem d_X4_init_7 : decode cX4_init 7 = .ok (.newarray .int, 2) := by decide +kernel
theorem d_X4_init_9 : decode cX4_init 9 = .ok (.putfield 9, 3) := by decide +kernel
theorem d_X4_init_12 : decode cX4_init 12 = .ok (.aload_n 0, 1) := by decide +kernel
theorem d_X4_init_13 : decode cX4_init 13 = .ok (.bipush 126, 2) := by decide +kernel
theorem d_X4_init_15 : decode cX4_init 15 = .ok (.newarray .int, 2) := by decide +kernel
theorem d_X4_init_17 : decode cX4_init 17 = .ok (.putfield 15, 3) := by decide +kernel
theorem d_X4_init_20 : decode cX4_init 20 = .ok (.return_, 1) := by decide +kernel
theorem d_X11_init_0 : decode cX11_init 0 = .ok (.aload_n 0, 1) := by decide +kernel
theorem d_X11_init_1 : decode cX11_init 1 = .ok (.invokespecial 1, 3) := by decide +kernel
theorem d_X11_init_4 : decode cX11_init 4 = .ok (.aload_n 0, 1) := by decide +kernel
theorem d_X11_init_5 : decode cX11_init 5 = .ok (.iconst (-1), 1) := by decide +kernel
theorem d_X11_init_6 : decode cX11_init 6 = .ok (.putfield 9, 3) := by decide +kernel
theorem d_X11_init_9 : decode cX11_init 9 = .ok (.aload_n 0, 1) := by decide +kernel
theorem d_X11_init_10 : decode cX11_init 10 = .ok (.sipush 600, 3) := by decide +kernel
theorem d_X11_init_13 : decode cX11_init 13 = .ok (.newarray .int, 2) := by decide +kernel
theorem d_X11_init_15 : decode cX11_init 15 = .ok (.putfield 13, 3) := by decide +kernel
theorem d_X11_init_18 : decode cX11_init 18 = .ok (.aload_n 0, 1) := by decide +kernel
theorem d_X11_init_19 : decode cX11_init 19 = .ok (.iconst 2, 1) := by decide +kernel
theorem d_X11_init_20 : decode cX11_init 20 = .ok (.newarray .int, 2) := by decide +kernel
theorem d_X11_init_22 : decode cX11_init 22 = .ok (.putfield 17, 3) := by decide +kernel
theorem d_X11_init_25 : decode cX11_init 25 = .ok (.aload_n 0, 1) := by decide +kernel
theorem d_X11_init_26 : decode cX11_init 26 = .ok (.iconst 5, 1) := by decide +kernel
theorem d_X11_init_27 : decode cX11_init 27 = .ok (.newarray .int, 2) := by decide +kernel
theorem d_X11_init_29 : decode cX11_init 29 = .ok (.putfield 20, 3) := by decide +kernel
theorem d_X11_init_32 : decode cX11_init 32 = .ok (.aload_n 0, 1) := by decide +kernel
theorem d_X11_init_33 : decode cX11_init 33 = .ok (.iconst 5, 1) := by decide +kernel
theorem d_X11_init_34 : decode cX11_init 34 = .ok (.newarray .int, 2) := by decide +kernel
theorem d_X11_init_36 : decode cX11_init 36 = .ok (.putfield 23, 3) := by decide +kernel
theorem d_X11_init_39 : decode cX11_init 39 = .ok (.aload_n 0, 1) := by decide +kernel
theorem d_X11_init_40 : decode cX11_init 40 = .ok (.bipush 10, 2) := by decide +kernel
theorem d_X11_init_42 : decode cX11_init 42 = .ok (.iconst 2, 1) := by decide +kernel
theorem d_X11_init_43 : decode cX11_init 43 = .ok (.multianewarray 26 2, 4) := by decide +kernel
theorem d_X11_init_47 : decode cX11_init 47 = .ok (.putfield 28, 3) := by decide +kernel
theorem d_X11_init_50 : decode cX11_init 50 = .ok (.aload_n 0, 1) := by decide +kernel
theorem d_X11_init_51 : decode cX11_init 51 = .ok (.bipush 10, 2) := by decide +kernel
theorem d_X11_init_53 : decode cX11_init 53 = .ok (.iconst 2, 1) := by decide +kernel
theorem d_X11_init_54 : decode cX11_init 54 = .ok (.multianewarray 26 2, 4) := by decide +kernel
theorem d_X11_init_58 : decode cX11_init 58 = .ok (.putfield 31, 3) := by decide +kernel
theorem d_X11_init_61 : decode cX11_init 61 = .ok (.aload_n 0, 1) := by decide +kernel
theorem d_X11_init_62 : decode cX11_init 62 = .ok (.bipush 14, 2) := by decide +kernel
theorem d_X11_init_64 : decode cX11_init 64 = .ok (.iconst 4, 1) := by decide +kernel
theorem d_X11_init_65 : decode cX11_init 65 = .ok (.multianewarray 26 2, 4) := by decide +kernel
theorem d_X11_init_69 : decode cX11_init 69 = .ok (.putfield 34, 3) := by decide +kernel
theorem d_X11_init_72 : decode cX11_init 72 = .ok (.aload_n 0, 1) := by decide +kernel
theorem d_X11_init_73 : decode cX11_init 73 = .ok (.bipush 14, 2) := by decide +kernel
theorem d_X11_init_75 : decode cX11_init 75 = .ok (.iconst 4, 1) := by decide +kernel
theorem d_X11_init_76 : decode cX11_init 76 = .ok (.multianewarray 26 2, 4) := by decide +kernel
theorem d_X11_init_80 : decode cX11_init 80 = .ok (.putfield 37, 3) := by decide +kernel
theorem d_X11_init_83 : decode cX11_init 83 = .ok (.aload_n 0, 1) := by decide +kernel
theorem d_X11_init_84 : decode cX11_init 84 = .ok (.bipush 8, 2) := by decide +kernel
theorem d_X11_init_86 : decode cX11_init 86 = .ok (.iconst 3, 1) := by decide +kernel
theorem d_X11_init_87 : decode cX11_init 87 = .ok (.multianewarray 26 2, 4) := by decide +kernel
theorem d_X11_init_91 : decode cX11_init 91 = .ok (.putfield 40, 3) := by decide +kernel
theorem d_X11_init_94 : decode cX11_init 94 = .ok (.aload_n 0, 1) := by decide +kernel
theorem d_X11_init_95 : decode cX11_init 95 = .ok (.bipush 8, 2) := by decide +kernel
theorem d_X11_init_97 : decode cX11_init 97 = .ok (.iconst 3, 1) := by decide +kernel
theorem d_X11_init_98 : decode cX11_init 98 = .ok (.multianewarray 26 2, 4) := by decide +kernel
theorem d_X11_init_102 : decode cX11_init 102 = .ok (.putfield 43, 3) := by decide +kernel
theorem d_X11_init_105 : decode cX11_init 105 = .ok (.aload_n 0, 1) := by decide +kernel
theorem d_X11_init_106 : decode cX11_init 106 = .ok (.bipush 20, 2) := by decide +kernel
theorem d_X11_init_108 : decode cX11_init 108 = .ok (.iconst 4, 1) := by decide +kernel
theorem d_X11_init_109 : decode cX11_init 109 = .ok (.multianewarray 26 2, 4) := by decide +kernel
theorem d_X11_init_113 : decode cX11_init 113 = .ok (.putfield 46, 3) := by decide +kernel
theorem d_X11_init_116 : decode cX11_init 116 = .ok (.aload_n 0, 1) := by decide +kernel
theorem d_X11_init_117 : decode cX11_init 117 = .ok (.bipush 20, 2) := by decide +kernel
theorem d_X11_init_119 : decode cX11_init 119 = .ok (.iconst 4, 1) := by decide +kernel
theorem d_X11_init_120 : decode cX11_init 120 = .ok (.multianewarray 26 2, 4) := by decide +kernel
theorem d_X11_init_124 : decode cX11_init 124 = .ok (.putfield 49, 3) := by decide +kernel
theorem d_X11_init_127 : decode cX11_init 127 = .ok (.aload_n 0, 1) := by decide +kernel
theorem d_X11_init_128 : decode cX11_init 128 = .ok (.iconst 3, 1) := by decide +kernel
theorem d_X11_init_129 : decode cX11_init 129 = .ok (.newarray .int, 2) := by decide +kernel
theorem d_X11_init_131 : decode cX11_init 131 = .ok (.putfield 52, 3) := by decide +kernel
theorem d_X11_init_134 : decode cX11_init 134 = .ok (.aload_n 0, 1) := by decide +kernel
theorem d_X11_init_135 : decode cX11_init 135 = .ok (.iconst 3, 1) := by decide +kernel
theorem d_X11_init_136 : decode cX11_init 136 = .ok (.newarray .int, 2) := by decide +kernel
theorem d_X11_init_138 : decode cX11_init 138 = .ok (.putfield 55, 3) := by decide +kernel
theorem d_X11_init_141 : decode cX11_init 141 = .ok (.aload_n 0, 1) := by decide +kernel
theorem d_X11_init_142 : decode cX11_init 142 = .ok (.bipush 9, 2) := by decide +kernel
theorem d_X11_init_144 : decode cX11_init 144 = .ok (.iconst 3, 1) := by decide +kernel
theorem d_X11_init_145 : decode cX11_init 145 = .ok (.multianewarray 26 2, 4) := by decide +kernel
theorem d_X11_init_149 : decode cX11_init 149 = .ok (.putfield 58, 3) := by decide +kernel
theorem d_X11_init_152 : decode cX11_init 152 = .ok (.aload_n 0, 1) := by decide +kernel
theorem d_X11_init_153 : decode cX11_init 153 = .ok (.iconst 3, 1) := by decide +kernel
theorem d_X11_init_154 : decode cX11_init 154 = .ok (.bipush 120, 2) := by decide +kernel
theorem d_X11_init_156 : decode cX11_init 156 = .ok (.multianewarray 26 2, 4) := by decide +kernel
theorem d_X11_init_160 : decode cX11_init 160 = .ok (.putfield 61, 3) := by decide +kernel
theorem d_X11_init_163 : decode cX11_init 163 = .ok (.aload_n 0, 1) := by decide +kernel
theorem d_X11_init_164 : decode cX11_init 164 = .ok (.bipush 14, 2) := by decide +kernel
theorem d_X11_init_166 : decode cX11_init 166 = .ok (.newarray .int, 2) := by decide +kernel
theorem d_X11_init_168 : decode cX11_init 168 = .ok (.putfield 64, 3) := by decide +kernel
theorem d_X11_init_171 : decode cX11_init 171 = .ok (.aload_n 0, 1) := by decide +kernel
theorem d_X11_init_172 : decode cX11_init 172 = .ok (.bipush 14, 2) := by decide +kernel
theorem d_X11_init_174 : decode cX11_init 174 = .ok (.newarray .int, 2) := by decide +kernel
theorem d_X11_init_176 : decode cX11_init 176 = .ok (.putfield 67, 3) := by decide +kernel
theorem d_X11_init_179 : decode cX11_init 179 = .ok (.aload_n 0, 1) := by decide +kernel
theorem d_X11_init_180 : decode cX11_init 180 = .ok (.bipush 14, 2) := by decide +kernel
theorem d_X11_init_182 : decode cX11_init 182 = .ok (.newarray .int, 2) := by decide +kernel
theorem d_X11_init_184 : decode cX11_init 184 = .ok (.putfield 70, 3) := by decide +kernel
theorem d_X11_init_187 : decode cX11_init 187 = .ok (.aload_n 0, 1) := by decide +kernel
theorem d_X11_init_188 : decode cX11_init 188 = .ok (.bipush 10, 2) := by decide +kernel
theorem d_X11_init_190 : decode cX11_init 190 = .ok (.newarray .int, 2) := by decide +kernel
theorem d_X11_init_192 : decode cX11_init 192 = .ok (.putfield 73, 3) := by decide +kernel
theorem d_X11_init_195 : decode cX11_init 195 = .ok (.aload_n 0, 1) := by decide +kernel
theorem d_X11_init_196 : decode cX11_init 196 = .ok (.bipush 10, 2) := by decide +kernel
theorem d_X11_init_198 : decode cX11_init 198 = .ok (.newarray .int, 2) := by decide +kernel
theorem d_X11_init_200 : decode cX11_init 200 = .ok (.putfield 76, 3) := by decide +kernel
theorem d_X11_init_203 : decode cX11_init 203 = .ok (.aload_n 0, 1) := by decide +kernel
theorem d_X11_init_204 : decode cX11_init 204 = .ok (.bipush 10, 2) := by decide +kernel
theorem d_X11_init_206 : decode cX11_init 206 = .ok (.newarray .int, 2) := by decide +kernel
theorem d_X11_init_208 : decode cX11_init 208 = .ok (.putfield 79, 3) := by decide +kernel
theorem d_X11_init_211 : decode cX11_init 211 = .ok (.aload_n 0, 1) := by decide +kernel
theorem d_X11_init_212 : decode cX11_init 212 = .ok (.bipush 8, 2) := by decide +kernel
theorem d_X11_init_214 : decode cX11_init 214 = .ok (.iconst 3, 1) := by decide +kernel
theorem d_X11_init_215 : decode cX11_init 215 = .ok (.iconst 2, 1) := by decide +kernel
theorem d_X11_init_216 : decode cX11_init 216 = .ok (.multianewarray 82 3, 4) := by decide +kernel
theorem d_X11_init_220 : decode cX11_init 220 = .ok (.putfield 84, 3) := by decide +kernel
theorem d_X11_init_223 : decode cX11_init 223 = .ok (.aload_n 0, 1) := by decide +kernel
theorem d_X11_init_224 : decode cX11_init 224 = .ok (.iconst (-1), 1) := by decide +kernel
theorem d_X11_init_225 : decode cX11_init 225 = .ok (.putfield 87, 3) := by decide +kernel
theorem d_X11_init_228 : decode cX11_init 228 = .ok (.aload_n 0, 1) := by decide +kernel
theorem d_X11_init_229 : decode cX11_init 229 = .ok (.sipush 1024, 3) := by decide +kernel
theorem d_X11_init_232 : decode cX11_init 232 = .ok (.newarray .boolean, 2) := by decide +kernel
theorem d_X11_init_234 : decode cX11_init 234 = .ok (.putfield 90, 3) := by decide +kernel
theorem d_X11_init_237 : decode cX11_init 237 = .ok (.aload_n 0, 1) := by decide +kernel
theorem d_X11_init_238 : decode cX11_init 238 = .ok (.sipush 1024, 3) := by decide +kernel
theorem d_X11_init_241 : decode cX11_init 241 = .ok (.newarray .boolean, 2) := by decide +kernel
theorem d_X11_init_243 : decode cX11_init 243 = .ok (.putfield 94, 3) := by decide +kernel
theorem d_X11_init_246 : decode cX11_init 246 = .ok (.aload_n 0, 1) := by decide +kernel
theorem d_X11_init_247 : decode cX11_init 247 = .ok (.sipush 1024, 3) := by decide +kernel
theorem d_X11_init_250 : decode cX11_init 250 = .ok (.newarray .int, 2) := by decide +kernel
theorem d_X11_init_252 : decode cX11_init 252 = .ok (.putfield 97, 3) := by decide +kernel
theorem d_X11_init_255 : decode cX11_init 255 = .ok (.aload_n 0, 1) := by decide +kernel
theorem d_X11_init_256 : decode cX11_init 256 = .ok (.bipush 10, 2) := by decide +kernel
theorem d_X11_init_258 : decode cX11_init 258 = .ok (.newarray .int, 2) := by decide +kernel
theorem d_X11_init_260 : decode cX11_init 260 = .ok (.putfield 100, 3) := by decide +kernel
theorem d_X11_init_263 : decode cX11_init 263 = .ok (.aload_n 0, 1) := by decide +kernel
theorem d_X11_init_264 : decode cX11_init 264 = .ok (.bipush 14, 2) := by decide +kernel
theorem d_X11_init_266 : decode cX11_init 266 = .ok (.newarray .int, 2) := by decide +kernel
theorem d_X11_init_268 : decode cX11_init 268 = .ok (.putfield 103, 3) := by decide +kernel
theorem d_X11_init_271 : decode cX11_init 271 = .ok (.return_, 1) := by decide +kernel
theorem df0 : ∀ j, j < 4 → defaultValue (tyX0 j) = fz 0 j
  | 0, _ => rfl
  | 1, _ => rfl
  | 2, _ => rfl
  | 3, _ => rfl
  | n + 4, h => absurd h (by omega)
theorem df1 : ∀ j, j < 3 → defaultValue (tyX1 j) = fz 1 j
  | 0, _ => rfl
  | 1, _ => rfl
  | 2, _ => rfl
  | n + 3, h => absurd h (by omega)
theorem df2 : ∀ j, j < 8 → defaultValue (tyX2 j) = fz 2 j
  | 0, _ => rfl
  | 1, _ => rfl
  | 2, _ => rfl
  | 3, _ => rfl
  | 4, _ => rfl
  | 5, _ => rfl
  | 6, _ => rfl
  | 7, _ => rfl
  | n + 8, h => absurd h (by omega)
theorem df3 : ∀ j, j < 5 → defaultValue (tyX3 j) = fz 3 j
  | 0, _ => rfl
  | 1, _ => rfl
  | 2, _ => rfl
  | 3, _ => rfl
  | 4, _ => rfl
  | n + 5, h => absurd h (by omega)
theorem df4 : ∀ j, j < 7 → defaultValue (tyX4 j) = fz 4 j
  | 0, _ => rfl
  | 1, _ => rfl
  | 2, _ => rfl
  | 3, _ => rfl
  | 4, _ => rfl
  | 5, _ => rfl
  | 6, _ => rfl
  | n + 7, h => absurd h (by omega)
theorem df5 : ∀ j, j < 5 → defaultValue (tyX5 j) = fz 5 j
  | 0, _ => rfl
  | 1, _ => rfl
  | 2, _ => rfl
  | 3, _ => rfl
  | 4, _ => rfl
  | n + 5, h => absurd h (by omega)
theorem df6 : ∀ j, j < 15 → defaultValue (tyX6 j) = fz 6 j
  | 0, _ => rfl
  | 1, _ => rfl
  | 2, _ => rfl
  | 3, _ => rfl
  | 4, _ => rfl
  | 5, _ => rfl
  | 6, _ => rfl
  | 7, _ => rfl
  | 8, _ => rfl
  | 9, _ => rfl
  | 10, _ => rfl
  | 11, _ => rfl
  | 12, _ => rfl
  | 13, _ => rfl
  | 14, _ => rfl
  | n + 15, h => absurd h (by omega)
theorem df7 : ∀ j, j < 5 → defaultValue (tyX7 j) = fz 7 j
  | 0, _ => rfl
  | 1, _ => rfl
  | 2, _ => rfl
  | 3, _ => rfl
  | 4, _ => rfl
  | n + 5, h => absurd h (by omega)
theorem df8 : ∀ j, j < 9 → defaultValue (tyX8 j) = fz 8 j
  | 0, _ => rfl
  | 1, _ => rfl
  | 2, _ => rfl
  | 3, _ => rfl
  | 4, _ => rfl
  | 5, _ => rfl
  | 6, _ => rfl
  | 7, _ => rfl
  | 8, _ => rfl
  | n + 9, h => absurd h (by omega)
theorem df9 : ∀ j, j < 7 → defaultValue (tyX9 j) = fz 9 j
  | 0, _ => rfl
  | 1, _ => rfl
  | 2, _ => rfl
  | 3, _ => rfl
  | 4, _ => rfl
  | 5, _ => rfl
  | 6, _ => rfl
  | n + 7, h => absurd h (by omega)
theorem df10 : ∀ j, j < 18 → defaultValue (tyX10 j) = fz 10 j
  | 0, _ => rfl
  | 1, _ => rfl
  | 2, _ => rfl
  | 3, _ => rfl
  | 4, _ => rfl
  | 5, _ => rfl
  | 6, _ => rfl
  | 7, _ => rfl
  | 8, _ => rfl
  | 9, _ => rfl
  | 10, _ => rfl
  | 11, _ => rfl
  | 12, _ => rfl
  | 13, _ => rfl
  | 14, _ => rfl
  | 15, _ => rfl
  | 16, _ => rfl
  | 17, _ => rfl
  | n + 18, h => absurd h (by omega)
theorem df11 : ∀ j, j < 46 → defaultValue (tyX11 j) = fz 11 j
  | 0, _ => rfl
  | 1, _ => rfl
  | 2, _ => rfl
  | 3, _ => rfl
  | 4, _ => rfl
  | 5, _ => rfl
  | 6, _ => rfl
  | 7, _ => rfl
  | 8, _ => rfl
  | 9, _ => rfl
  | 10, _ => rfl
  | 11, _ => rfl
  | 12, _ => rfl
  | 13, _ => rfl
  | 14, _ => rfl
  | 15, _ => rfl
  | 16, _ => rfl
  | 17, _ => rfl
  | 18, _ => rfl
  | 19, _ => rfl
  | 20, _ => rfl
  | 21, _ => rfl
  | 22, _ => rfl
  | 23, _ => rfl
  | 24, _ => rfl
  | 25, _ => rfl
  | 26, _ => rfl
  | 27, _ => rfl
  | 28, _ => rfl
  | 29, _ => rfl
  | 30, _ => rfl
  | 31, _ => rfl
  | 32, _ => rfl
  | 33, _ => rfl
  | 34, _ => rfl
  | 35, _ => rfl
  | 36, _ => rfl
  | 37, _ => rfl
  | 38, _ => rfl
  | 39, _ => rfl
  | 40, _ => rfl
  | 41, _ => rfl
  | 42, _ => rfl
  | 43, _ => rfl
  | 44, _ => rfl
  | 45, _ => rfl
  | n + 46, h => absurd h (by omega)
