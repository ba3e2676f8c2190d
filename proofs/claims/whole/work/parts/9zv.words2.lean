set_option maxRecDepth 100000 in
theorem mw_133 : (Cond.instanceMethod ({ cls := "java/lang/Object", name := "<init>", desc := "()V" } : MethodName)) ∈ bc_wd := bc_mem 133 (by rfl) (by decide +kernel)
set_option maxRecDepth 100000 in
theorem mw_134 : (Cond.code ({ cls := "java/lang/Object", name := "<init>", desc := "()V" } : MethodName) object_method_1_code (1 : Nat) (Option.none : Option ClassFile.FieldType)) ∈ bc_wd := bc_mem 134 (by rfl) (by decide +kernel)
set_option maxRecDepth 100000 in
theorem mw_231 : (Cond.arrayClass ClassFile.FieldType.int) ∈ bc_wd := bc_mem 231 (by rfl) (by decide +kernel)
set_option maxRecDepth 100000 in
theorem mw_164 : (Cond.arrayClass ClassFile.FieldType.byte) ∈ bc_wd := bc_mem 164 (by rfl) (by decide +kernel)
set_option maxRecDepth 100000 in
theorem mw_1931 : (Cond.arrayClass ClassFile.FieldType.long) ∈ bc_wd := bc_mem 1931 (by rfl) (by decide +kernel)
set_option maxRecDepth 100000 in
theorem mw_1932 : (Cond.arrayClass ClassFile.FieldType.double) ∈ bc_wd := bc_mem 1932 (by rfl) (by decide +kernel)
set_option maxRecDepth 100000 in
theorem mw_130 : (Cond.instanceMethod ({ cls := "BroadcastCarousel", name := "<init>", desc := "()V" } : MethodName)) ∈ bc_wd := bc_mem 130 (by rfl) (by decide +kernel)
set_option maxRecDepth 100000 in
theorem mw_138 : (Cond.instanceMethod ({ cls := "BroadcastCarousel$Parser", name := "<init>", desc := "()V" } : MethodName)) ∈ bc_wd := bc_mem 138 (by rfl) (by decide +kernel)
set_option maxRecDepth 100000 in
theorem mw_168 : (Cond.instanceMethod ({ cls := "BroadcastCarousel$State", name := "<init>", desc := "()V" } : MethodName)) ∈ bc_wd := bc_mem 168 (by rfl) (by decide +kernel)
set_option maxRecDepth 100000 in
theorem mw_174 : (Cond.instanceMethod ({ cls := "BroadcastCarousel$Settings", name := "<init>", desc := "()V" } : MethodName)) ∈ bc_wd := bc_mem 174 (by rfl) (by decide +kernel)
set_option maxRecDepth 100000 in
theorem mw_236 : (Cond.instanceMethod ({ cls := "BroadcastCarousel$Client", name := "<init>", desc := "()V" } : MethodName)) ∈ bc_wd := bc_mem 236 (by rfl) (by decide +kernel)
set_option maxRecDepth 100000 in
theorem mw_299 : (Cond.instanceMethod ({ cls := "BroadcastCarousel$History", name := "<init>", desc := "()V" } : MethodName)) ∈ bc_wd := bc_mem 299 (by rfl) (by decide +kernel)
set_option maxRecDepth 100000 in
theorem mw_319 : (Cond.instanceMethod ({ cls := "BroadcastCarousel$Program", name := "<init>", desc := "()V" } : MethodName)) ∈ bc_wd := bc_mem 319 (by rfl) (by decide +kernel)
set_option maxRecDepth 100000 in
theorem mw_372 : (Cond.instanceMethod ({ cls := "BroadcastCarousel$Tiers", name := "<init>", desc := "()V" } : MethodName)) ∈ bc_wd := bc_mem 372 (by rfl) (by decide +kernel)
set_option maxRecDepth 100000 in
theorem mw_401 : (Cond.instanceMethod ({ cls := "BroadcastCarousel$Plan", name := "<init>", desc := "()V" } : MethodName)) ∈ bc_wd := bc_mem 401 (by rfl) (by decide +kernel)
set_option maxRecDepth 100000 in
theorem mw_1349 : (Cond.instanceMethod ({ cls := "BroadcastCarouselModel", name := "<init>", desc := "()V" } : MethodName)) ∈ bc_wd := bc_mem 1349 (by rfl) (by decide +kernel)
set_option maxRecDepth 100000 in
theorem mw_238 : (Cond.methodLink "BroadcastCarousel$Client" (3 : Nat) ({ cls := "java/lang/Object", name := "<init>", desc := "()V" } : MethodName)) ∈ bc_wd := bc_mem 238 (by rfl) (by decide +kernel)
set_option maxRecDepth 100000 in
theorem mw_176 : (Cond.methodLink "BroadcastCarousel$Settings" (3 : Nat) ({ cls := "java/lang/Object", name := "<init>", desc := "()V" } : MethodName)) ∈ bc_wd := bc_mem 176 (by rfl) (by decide +kernel)
set_option maxRecDepth 100000 in
theorem mw_140 : (Cond.methodLink "BroadcastCarousel$Parser" (3 : Nat) ({ cls := "java/lang/Object", name := "<init>", desc := "()V" } : MethodName)) ∈ bc_wd := bc_mem 140 (by rfl) (by decide +kernel)
set_option maxRecDepth 100000 in
theorem mw_374 : (Cond.methodLink "BroadcastCarousel$Tiers" (3 : Nat) ({ cls := "java/lang/Object", name := "<init>", desc := "()V" } : MethodName)) ∈ bc_wd := bc_mem 374 (by rfl) (by decide +kernel)
set_option maxRecDepth 100000 in
theorem mw_321 : (Cond.methodLink "BroadcastCarousel$Program" (3 : Nat) ({ cls := "java/lang/Object", name := "<init>", desc := "()V" } : MethodName)) ∈ bc_wd := bc_mem 321 (by rfl) (by decide +kernel)
set_option maxRecDepth 100000 in
theorem mw_322 : (Cond.classLink "BroadcastCarousel$Program" (31 : Nat) "[[I") ∈ bc_wd := bc_mem 322 (by rfl) (by decide +kernel)
set_option maxRecDepth 100000 in
theorem mw_403 : (Cond.methodLink "BroadcastCarousel$Plan" (3 : Nat) ({ cls := "java/lang/Object", name := "<init>", desc := "()V" } : MethodName)) ∈ bc_wd := bc_mem 403 (by rfl) (by decide +kernel)
set_option maxRecDepth 100000 in
theorem mw_404 : (Cond.classLink "BroadcastCarousel$Plan" (25 : Nat) "BroadcastCarousel$Client") ∈ bc_wd := bc_mem 404 (by rfl) (by decide +kernel)
set_option maxRecDepth 100000 in
theorem mw_234 : (Cond.instantiable "BroadcastCarousel$Client" (11 : Nat)) ∈ bc_wd := bc_mem 234 (by rfl) (by decide +kernel)
set_option maxRecDepth 100000 in
theorem mw_237 : (Cond.code ({ cls := "BroadcastCarousel$Client", name := "<init>", desc := "()V" } : MethodName) prog_2_method_1_code (1 : Nat) (Option.none : Option ClassFile.FieldType)) ∈ bc_wd := bc_mem 237 (by rfl) (by decide +kernel)
set_option maxRecDepth 100000 in
theorem mw_170 : (Cond.methodLink "BroadcastCarousel$State" (3 : Nat) ({ cls := "java/lang/Object", name := "<init>", desc := "()V" } : MethodName)) ∈ bc_wd := bc_mem 170 (by rfl) (by decide +kernel)
set_option maxRecDepth 100000 in
theorem mw_171 : (Cond.classLink "BroadcastCarousel$State" (9 : Nat) "BroadcastCarousel$Settings") ∈ bc_wd := bc_mem 171 (by rfl) (by decide +kernel)
set_option maxRecDepth 100000 in
theorem mw_172 : (Cond.instantiable "BroadcastCarousel$Settings" (8 : Nat)) ∈ bc_wd := bc_mem 172 (by rfl) (by decide +kernel)
set_option maxRecDepth 100000 in
theorem mw_175 : (Cond.code ({ cls := "BroadcastCarousel$Settings", name := "<init>", desc := "()V" } : MethodName) prog_7_method_1_code (1 : Nat) (Option.none : Option ClassFile.FieldType)) ∈ bc_wd := bc_mem 175 (by rfl) (by decide +kernel)
set_option maxRecDepth 100000 in
theorem mw_232 : (Cond.classLink "BroadcastCarousel$State" (22 : Nat) "BroadcastCarousel$Client") ∈ bc_wd := bc_mem 232 (by rfl) (by decide +kernel)
set_option maxRecDepth 100000 in
theorem mw_301 : (Cond.methodLink "BroadcastCarousel$History" (3 : Nat) ({ cls := "java/lang/Object", name := "<init>", desc := "()V" } : MethodName)) ∈ bc_wd := bc_mem 301 (by rfl) (by decide +kernel)
set_option maxRecDepth 100000 in
theorem mw_302 : (Cond.classLink "BroadcastCarousel$History" (18 : Nat) "BroadcastCarousel$State") ∈ bc_wd := bc_mem 302 (by rfl) (by decide +kernel)
set_option maxRecDepth 100000 in
theorem mw_166 : (Cond.instantiable "BroadcastCarousel$State" (3 : Nat)) ∈ bc_wd := bc_mem 166 (by rfl) (by decide +kernel)
set_option maxRecDepth 100000 in
theorem mw_304 : (Cond.methodLink "BroadcastCarousel$History" (24 : Nat) ({ cls := "BroadcastCarousel$State", name := "<init>", desc := "()V" } : MethodName)) ∈ bc_wd := bc_mem 304 (by rfl) (by decide +kernel)
set_option maxRecDepth 100000 in
theorem mw_169 : (Cond.code ({ cls := "BroadcastCarousel$State", name := "<init>", desc := "()V" } : MethodName) prog_8_method_1_code (2 : Nat) (Option.none : Option ClassFile.FieldType)) ∈ bc_wd := bc_mem 169 (by rfl) (by decide +kernel)
set_option maxRecDepth 100000 in
theorem mw_132 : (Cond.methodLink "BroadcastCarousel" (1 : Nat) ({ cls := "java/lang/Object", name := "<init>", desc := "()V" } : MethodName)) ∈ bc_wd := bc_mem 132 (by rfl) (by decide +kernel)
set_option maxRecDepth 100000 in
theorem mw_135 : (Cond.classLink "BroadcastCarousel" (24 : Nat) "BroadcastCarousel$Parser") ∈ bc_wd := bc_mem 135 (by rfl) (by decide +kernel)
set_option maxRecDepth 100000 in
theorem mw_136 : (Cond.instantiable "BroadcastCarousel$Parser" (7 : Nat)) ∈ bc_wd := bc_mem 136 (by rfl) (by decide +kernel)
set_option maxRecDepth 100000 in
theorem mw_139 : (Cond.code ({ cls := "BroadcastCarousel$Parser", name := "<init>", desc := "()V" } : MethodName) prog_4_method_1_code (1 : Nat) (Option.none : Option ClassFile.FieldType)) ∈ bc_wd := bc_mem 139 (by rfl) (by decide +kernel)
set_option maxRecDepth 100000 in
theorem mw_165 : (Cond.classLink "BroadcastCarousel" (31 : Nat) "BroadcastCarousel$State") ∈ bc_wd := bc_mem 165 (by rfl) (by decide +kernel)
set_option maxRecDepth 100000 in
theorem mw_167 : (Cond.methodLink "BroadcastCarousel" (33 : Nat) ({ cls := "BroadcastCarousel$State", name := "<init>", desc := "()V" } : MethodName)) ∈ bc_wd := bc_mem 167 (by rfl) (by decide +kernel)
set_option maxRecDepth 100000 in
theorem mw_296 : (Cond.classLink "BroadcastCarousel" (41 : Nat) "BroadcastCarousel$History") ∈ bc_wd := bc_mem 296 (by rfl) (by decide +kernel)
set_option maxRecDepth 100000 in
theorem mw_297 : (Cond.instantiable "BroadcastCarousel$History" (3 : Nat)) ∈ bc_wd := bc_mem 297 (by rfl) (by decide +kernel)
set_option maxRecDepth 100000 in
theorem mw_298 : (Cond.methodLink "BroadcastCarousel" (43 : Nat) ({ cls := "BroadcastCarousel$History", name := "<init>", desc := "()V" } : MethodName)) ∈ bc_wd := bc_mem 298 (by rfl) (by decide +kernel)
set_option maxRecDepth 100000 in
theorem mw_300 : (Cond.code ({ cls := "BroadcastCarousel$History", name := "<init>", desc := "()V" } : MethodName) prog_3_method_1_code (2 : Nat) (Option.none : Option ClassFile.FieldType)) ∈ bc_wd := bc_mem 300 (by rfl) (by decide +kernel)
set_option maxRecDepth 100000 in
theorem mw_316 : (Cond.classLink "BroadcastCarousel" (48 : Nat) "BroadcastCarousel$Program") ∈ bc_wd := bc_mem 316 (by rfl) (by decide +kernel)
set_option maxRecDepth 100000 in
theorem mw_317 : (Cond.instantiable "BroadcastCarousel$Program" (12 : Nat)) ∈ bc_wd := bc_mem 317 (by rfl) (by decide +kernel)
set_option maxRecDepth 100000 in
theorem mw_320 : (Cond.code ({ cls := "BroadcastCarousel$Program", name := "<init>", desc := "()V" } : MethodName) prog_6_method_1_code (1 : Nat) (Option.none : Option ClassFile.FieldType)) ∈ bc_wd := bc_mem 320 (by rfl) (by decide +kernel)
set_option maxRecDepth 100000 in
theorem mw_365 : (Cond.classLink "BroadcastCarousel" (55 : Nat) "BroadcastCarousel$Settings") ∈ bc_wd := bc_mem 365 (by rfl) (by decide +kernel)
set_option maxRecDepth 100000 in
theorem mw_367 : (Cond.classLink "BroadcastCarousel" (65 : Nat) "BroadcastCarousel$Client") ∈ bc_wd := bc_mem 367 (by rfl) (by decide +kernel)
set_option maxRecDepth 100000 in
theorem mw_369 : (Cond.classLink "BroadcastCarousel" (72 : Nat) "BroadcastCarousel$Tiers") ∈ bc_wd := bc_mem 369 (by rfl) (by decide +kernel)
set_option maxRecDepth 100000 in
theorem mw_370 : (Cond.instantiable "BroadcastCarousel$Tiers" (6 : Nat)) ∈ bc_wd := bc_mem 370 (by rfl) (by decide +kernel)
set_option maxRecDepth 100000 in
theorem mw_373 : (Cond.code ({ cls := "BroadcastCarousel$Tiers", name := "<init>", desc := "()V" } : MethodName) prog_9_method_1_code (1 : Nat) (Option.none : Option ClassFile.FieldType)) ∈ bc_wd := bc_mem 373 (by rfl) (by decide +kernel)
set_option maxRecDepth 100000 in
theorem mw_398 : (Cond.classLink "BroadcastCarousel" (79 : Nat) "BroadcastCarousel$Plan") ∈ bc_wd := bc_mem 398 (by rfl) (by decide +kernel)
set_option maxRecDepth 100000 in
theorem mw_399 : (Cond.instantiable "BroadcastCarousel$Plan" (5 : Nat)) ∈ bc_wd := bc_mem 399 (by rfl) (by decide +kernel)
set_option maxRecDepth 100000 in
theorem mw_402 : (Cond.code ({ cls := "BroadcastCarousel$Plan", name := "<init>", desc := "()V" } : MethodName) prog_5_method_1_code (1 : Nat) (Option.none : Option ClassFile.FieldType)) ∈ bc_wd := bc_mem 402 (by rfl) (by decide +kernel)
set_option maxRecDepth 100000 in
theorem mw_1351 : (Cond.methodLink "BroadcastCarouselModel" (1 : Nat) ({ cls := "java/lang/Object", name := "<init>", desc := "()V" } : MethodName)) ∈ bc_wd := bc_mem 1351 (by rfl) (by decide +kernel)
