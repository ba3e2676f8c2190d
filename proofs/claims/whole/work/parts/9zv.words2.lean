set_option maxRecDepth 100000 in
theorem mw_134 : (Cond.instanceMethod ({ cls := "java/lang/Object", name := "<init>", desc := "()V" } : MethodName)) ∈ bc_wd := bc_mem 134 (by rfl) (by decide +kernel)
set_option maxRecDepth 100000 in
theorem mw_135 : (Cond.code ({ cls := "java/lang/Object", name := "<init>", desc := "()V" } : MethodName) object_method_1_code (1 : Nat) (Option.none : Option ClassFile.FieldType)) ∈ bc_wd := bc_mem 135 (by rfl) (by decide +kernel)
set_option maxRecDepth 100000 in
theorem mw_232 : (Cond.arrayClass ClassFile.FieldType.int) ∈ bc_wd := bc_mem 232 (by rfl) (by decide +kernel)
set_option maxRecDepth 100000 in
theorem mw_165 : (Cond.arrayClass ClassFile.FieldType.byte) ∈ bc_wd := bc_mem 165 (by rfl) (by decide +kernel)
set_option maxRecDepth 100000 in
theorem mw_1931 : (Cond.arrayClass ClassFile.FieldType.long) ∈ bc_wd := bc_mem 1931 (by rfl) (by decide +kernel)
set_option maxRecDepth 100000 in
theorem mw_1932 : (Cond.arrayClass ClassFile.FieldType.double) ∈ bc_wd := bc_mem 1932 (by rfl) (by decide +kernel)
set_option maxRecDepth 100000 in
theorem mw_131 : (Cond.instanceMethod ({ cls := "BroadcastCarousel", name := "<init>", desc := "()V" } : MethodName)) ∈ bc_wd := bc_mem 131 (by rfl) (by decide +kernel)
set_option maxRecDepth 100000 in
theorem mw_139 : (Cond.instanceMethod ({ cls := "BroadcastCarousel$Parser", name := "<init>", desc := "()V" } : MethodName)) ∈ bc_wd := bc_mem 139 (by rfl) (by decide +kernel)
set_option maxRecDepth 100000 in
theorem mw_169 : (Cond.instanceMethod ({ cls := "BroadcastCarousel$State", name := "<init>", desc := "()V" } : MethodName)) ∈ bc_wd := bc_mem 169 (by rfl) (by decide +kernel)
set_option maxRecDepth 100000 in
theorem mw_175 : (Cond.instanceMethod ({ cls := "BroadcastCarousel$Settings", name := "<init>", desc := "()V" } : MethodName)) ∈ bc_wd := bc_mem 175 (by rfl) (by decide +kernel)
set_option maxRecDepth 100000 in
theorem mw_237 : (Cond.instanceMethod ({ cls := "BroadcastCarousel$Client", name := "<init>", desc := "()V" } : MethodName)) ∈ bc_wd := bc_mem 237 (by rfl) (by decide +kernel)
set_option maxRecDepth 100000 in
theorem mw_300 : (Cond.instanceMethod ({ cls := "BroadcastCarousel$History", name := "<init>", desc := "()V" } : MethodName)) ∈ bc_wd := bc_mem 300 (by rfl) (by decide +kernel)
set_option maxRecDepth 100000 in
theorem mw_320 : (Cond.instanceMethod ({ cls := "BroadcastCarousel$Program", name := "<init>", desc := "()V" } : MethodName)) ∈ bc_wd := bc_mem 320 (by rfl) (by decide +kernel)
set_option maxRecDepth 100000 in
theorem mw_373 : (Cond.instanceMethod ({ cls := "BroadcastCarousel$Tiers", name := "<init>", desc := "()V" } : MethodName)) ∈ bc_wd := bc_mem 373 (by rfl) (by decide +kernel)
set_option maxRecDepth 100000 in
theorem mw_402 : (Cond.instanceMethod ({ cls := "BroadcastCarousel$Plan", name := "<init>", desc := "()V" } : MethodName)) ∈ bc_wd := bc_mem 402 (by rfl) (by decide +kernel)
set_option maxRecDepth 100000 in
theorem mw_1349 : (Cond.instanceMethod ({ cls := "BroadcastCarouselModel", name := "<init>", desc := "()V" } : MethodName)) ∈ bc_wd := bc_mem 1349 (by rfl) (by decide +kernel)
set_option maxRecDepth 100000 in
theorem mw_239 : (Cond.methodLink "BroadcastCarousel$Client" (3 : Nat) ({ cls := "java/lang/Object", name := "<init>", desc := "()V" } : MethodName)) ∈ bc_wd := bc_mem 239 (by rfl) (by decide +kernel)
set_option maxRecDepth 100000 in
theorem mw_177 : (Cond.methodLink "BroadcastCarousel$Settings" (3 : Nat) ({ cls := "java/lang/Object", name := "<init>", desc := "()V" } : MethodName)) ∈ bc_wd := bc_mem 177 (by rfl) (by decide +kernel)
set_option maxRecDepth 100000 in
theorem mw_141 : (Cond.methodLink "BroadcastCarousel$Parser" (3 : Nat) ({ cls := "java/lang/Object", name := "<init>", desc := "()V" } : MethodName)) ∈ bc_wd := bc_mem 141 (by rfl) (by decide +kernel)
set_option maxRecDepth 100000 in
theorem mw_375 : (Cond.methodLink "BroadcastCarousel$Tiers" (3 : Nat) ({ cls := "java/lang/Object", name := "<init>", desc := "()V" } : MethodName)) ∈ bc_wd := bc_mem 375 (by rfl) (by decide +kernel)
set_option maxRecDepth 100000 in
theorem mw_322 : (Cond.methodLink "BroadcastCarousel$Program" (3 : Nat) ({ cls := "java/lang/Object", name := "<init>", desc := "()V" } : MethodName)) ∈ bc_wd := bc_mem 322 (by rfl) (by decide +kernel)
set_option maxRecDepth 100000 in
theorem mw_323 : (Cond.classLink "BroadcastCarousel$Program" (31 : Nat) "[[I") ∈ bc_wd := bc_mem 323 (by rfl) (by decide +kernel)
set_option maxRecDepth 100000 in
theorem mw_404 : (Cond.methodLink "BroadcastCarousel$Plan" (3 : Nat) ({ cls := "java/lang/Object", name := "<init>", desc := "()V" } : MethodName)) ∈ bc_wd := bc_mem 404 (by rfl) (by decide +kernel)
set_option maxRecDepth 100000 in
theorem mw_405 : (Cond.classLink "BroadcastCarousel$Plan" (25 : Nat) "BroadcastCarousel$Client") ∈ bc_wd := bc_mem 405 (by rfl) (by decide +kernel)
set_option maxRecDepth 100000 in
theorem mw_235 : (Cond.instantiable "BroadcastCarousel$Client" (11 : Nat)) ∈ bc_wd := bc_mem 235 (by rfl) (by decide +kernel)
set_option maxRecDepth 100000 in
theorem mw_238 : (Cond.code ({ cls := "BroadcastCarousel$Client", name := "<init>", desc := "()V" } : MethodName) prog_2_method_1_code (1 : Nat) (Option.none : Option ClassFile.FieldType)) ∈ bc_wd := bc_mem 238 (by rfl) (by decide +kernel)
set_option maxRecDepth 100000 in
theorem mw_171 : (Cond.methodLink "BroadcastCarousel$State" (3 : Nat) ({ cls := "java/lang/Object", name := "<init>", desc := "()V" } : MethodName)) ∈ bc_wd := bc_mem 171 (by rfl) (by decide +kernel)
set_option maxRecDepth 100000 in
theorem mw_172 : (Cond.classLink "BroadcastCarousel$State" (9 : Nat) "BroadcastCarousel$Settings") ∈ bc_wd := bc_mem 172 (by rfl) (by decide +kernel)
set_option maxRecDepth 100000 in
theorem mw_173 : (Cond.instantiable "BroadcastCarousel$Settings" (8 : Nat)) ∈ bc_wd := bc_mem 173 (by rfl) (by decide +kernel)
set_option maxRecDepth 100000 in
theorem mw_176 : (Cond.code ({ cls := "BroadcastCarousel$Settings", name := "<init>", desc := "()V" } : MethodName) prog_7_method_1_code (1 : Nat) (Option.none : Option ClassFile.FieldType)) ∈ bc_wd := bc_mem 176 (by rfl) (by decide +kernel)
set_option maxRecDepth 100000 in
theorem mw_233 : (Cond.classLink "BroadcastCarousel$State" (22 : Nat) "BroadcastCarousel$Client") ∈ bc_wd := bc_mem 233 (by rfl) (by decide +kernel)
set_option maxRecDepth 100000 in
theorem mw_302 : (Cond.methodLink "BroadcastCarousel$History" (3 : Nat) ({ cls := "java/lang/Object", name := "<init>", desc := "()V" } : MethodName)) ∈ bc_wd := bc_mem 302 (by rfl) (by decide +kernel)
set_option maxRecDepth 100000 in
theorem mw_303 : (Cond.classLink "BroadcastCarousel$History" (18 : Nat) "BroadcastCarousel$State") ∈ bc_wd := bc_mem 303 (by rfl) (by decide +kernel)
set_option maxRecDepth 100000 in
theorem mw_167 : (Cond.instantiable "BroadcastCarousel$State" (3 : Nat)) ∈ bc_wd := bc_mem 167 (by rfl) (by decide +kernel)
set_option maxRecDepth 100000 in
theorem mw_305 : (Cond.methodLink "BroadcastCarousel$History" (24 : Nat) ({ cls := "BroadcastCarousel$State", name := "<init>", desc := "()V" } : MethodName)) ∈ bc_wd := bc_mem 305 (by rfl) (by decide +kernel)
set_option maxRecDepth 100000 in
theorem mw_170 : (Cond.code ({ cls := "BroadcastCarousel$State", name := "<init>", desc := "()V" } : MethodName) prog_8_method_1_code (2 : Nat) (Option.none : Option ClassFile.FieldType)) ∈ bc_wd := bc_mem 170 (by rfl) (by decide +kernel)
set_option maxRecDepth 100000 in
theorem mw_133 : (Cond.methodLink "BroadcastCarousel" (1 : Nat) ({ cls := "java/lang/Object", name := "<init>", desc := "()V" } : MethodName)) ∈ bc_wd := bc_mem 133 (by rfl) (by decide +kernel)
set_option maxRecDepth 100000 in
theorem mw_136 : (Cond.classLink "BroadcastCarousel" (24 : Nat) "BroadcastCarousel$Parser") ∈ bc_wd := bc_mem 136 (by rfl) (by decide +kernel)
set_option maxRecDepth 100000 in
theorem mw_137 : (Cond.instantiable "BroadcastCarousel$Parser" (7 : Nat)) ∈ bc_wd := bc_mem 137 (by rfl) (by decide +kernel)
set_option maxRecDepth 100000 in
theorem mw_140 : (Cond.code ({ cls := "BroadcastCarousel$Parser", name := "<init>", desc := "()V" } : MethodName) prog_4_method_1_code (1 : Nat) (Option.none : Option ClassFile.FieldType)) ∈ bc_wd := bc_mem 140 (by rfl) (by decide +kernel)
set_option maxRecDepth 100000 in
theorem mw_166 : (Cond.classLink "BroadcastCarousel" (31 : Nat) "BroadcastCarousel$State") ∈ bc_wd := bc_mem 166 (by rfl) (by decide +kernel)
set_option maxRecDepth 100000 in
theorem mw_168 : (Cond.methodLink "BroadcastCarousel" (33 : Nat) ({ cls := "BroadcastCarousel$State", name := "<init>", desc := "()V" } : MethodName)) ∈ bc_wd := bc_mem 168 (by rfl) (by decide +kernel)
set_option maxRecDepth 100000 in
theorem mw_297 : (Cond.classLink "BroadcastCarousel" (41 : Nat) "BroadcastCarousel$History") ∈ bc_wd := bc_mem 297 (by rfl) (by decide +kernel)
set_option maxRecDepth 100000 in
theorem mw_298 : (Cond.instantiable "BroadcastCarousel$History" (3 : Nat)) ∈ bc_wd := bc_mem 298 (by rfl) (by decide +kernel)
set_option maxRecDepth 100000 in
theorem mw_299 : (Cond.methodLink "BroadcastCarousel" (43 : Nat) ({ cls := "BroadcastCarousel$History", name := "<init>", desc := "()V" } : MethodName)) ∈ bc_wd := bc_mem 299 (by rfl) (by decide +kernel)
set_option maxRecDepth 100000 in
theorem mw_301 : (Cond.code ({ cls := "BroadcastCarousel$History", name := "<init>", desc := "()V" } : MethodName) prog_3_method_1_code (2 : Nat) (Option.none : Option ClassFile.FieldType)) ∈ bc_wd := bc_mem 301 (by rfl) (by decide +kernel)
set_option maxRecDepth 100000 in
theorem mw_317 : (Cond.classLink "BroadcastCarousel" (48 : Nat) "BroadcastCarousel$Program") ∈ bc_wd := bc_mem 317 (by rfl) (by decide +kernel)
set_option maxRecDepth 100000 in
theorem mw_318 : (Cond.instantiable "BroadcastCarousel$Program" (12 : Nat)) ∈ bc_wd := bc_mem 318 (by rfl) (by decide +kernel)
set_option maxRecDepth 100000 in
theorem mw_321 : (Cond.code ({ cls := "BroadcastCarousel$Program", name := "<init>", desc := "()V" } : MethodName) prog_6_method_1_code (1 : Nat) (Option.none : Option ClassFile.FieldType)) ∈ bc_wd := bc_mem 321 (by rfl) (by decide +kernel)
set_option maxRecDepth 100000 in
theorem mw_366 : (Cond.classLink "BroadcastCarousel" (55 : Nat) "BroadcastCarousel$Settings") ∈ bc_wd := bc_mem 366 (by rfl) (by decide +kernel)
set_option maxRecDepth 100000 in
theorem mw_368 : (Cond.classLink "BroadcastCarousel" (65 : Nat) "BroadcastCarousel$Client") ∈ bc_wd := bc_mem 368 (by rfl) (by decide +kernel)
set_option maxRecDepth 100000 in
theorem mw_370 : (Cond.classLink "BroadcastCarousel" (72 : Nat) "BroadcastCarousel$Tiers") ∈ bc_wd := bc_mem 370 (by rfl) (by decide +kernel)
set_option maxRecDepth 100000 in
theorem mw_371 : (Cond.instantiable "BroadcastCarousel$Tiers" (6 : Nat)) ∈ bc_wd := bc_mem 371 (by rfl) (by decide +kernel)
set_option maxRecDepth 100000 in
theorem mw_374 : (Cond.code ({ cls := "BroadcastCarousel$Tiers", name := "<init>", desc := "()V" } : MethodName) prog_9_method_1_code (1 : Nat) (Option.none : Option ClassFile.FieldType)) ∈ bc_wd := bc_mem 374 (by rfl) (by decide +kernel)
set_option maxRecDepth 100000 in
theorem mw_399 : (Cond.classLink "BroadcastCarousel" (79 : Nat) "BroadcastCarousel$Plan") ∈ bc_wd := bc_mem 399 (by rfl) (by decide +kernel)
set_option maxRecDepth 100000 in
theorem mw_400 : (Cond.instantiable "BroadcastCarousel$Plan" (5 : Nat)) ∈ bc_wd := bc_mem 400 (by rfl) (by decide +kernel)
set_option maxRecDepth 100000 in
theorem mw_403 : (Cond.code ({ cls := "BroadcastCarousel$Plan", name := "<init>", desc := "()V" } : MethodName) prog_5_method_1_code (1 : Nat) (Option.none : Option ClassFile.FieldType)) ∈ bc_wd := bc_mem 403 (by rfl) (by decide +kernel)
set_option maxRecDepth 100000 in
theorem mw_1351 : (Cond.methodLink "BroadcastCarouselModel" (1 : Nat) ({ cls := "java/lang/Object", name := "<init>", desc := "()V" } : MethodName)) ∈ bc_wd := bc_mem 1351 (by rfl) (by decide +kernel)
