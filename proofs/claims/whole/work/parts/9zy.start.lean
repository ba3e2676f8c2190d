set_option maxRecDepth 100000 in
theorem mw_129 : (Cond.instantiable "BroadcastCarousel" (14 : Nat)) ∈ bc_wd := bc_mem 129 (by rfl) (by decide +kernel)
set_option maxRecDepth 100000 in
theorem mw_1347 : (Cond.instantiable "BroadcastCarouselModel" (42 : Nat)) ∈ bc_wd := bc_mem 1347 (by rfl) (by decide +kernel)
set_option maxRecDepth 100000 in
theorem mw_128 : (Cond.classLink "BroadcastCarouselLaw" (8 : Nat) "BroadcastCarousel") ∈ bc_wd := bc_mem 128 (by rfl) (by decide +kernel)
set_option maxRecDepth 100000 in
theorem mw_1346 : (Cond.classLink "BroadcastCarouselLaw" (161 : Nat) "BroadcastCarouselModel") ∈ bc_wd := bc_mem 1346 (by rfl) (by decide +kernel)
set_option maxRecDepth 100000 in
theorem mw_130 : (Cond.methodLink "BroadcastCarouselLaw" (160 : Nat) ({ cls := "BroadcastCarousel", name := "<init>", desc := "()V" } : MethodName)) ∈ bc_wd := bc_mem 130 (by rfl) (by decide +kernel)
set_option maxRecDepth 100000 in
theorem mw_1348 : (Cond.methodLink "BroadcastCarouselLaw" (163 : Nat) ({ cls := "BroadcastCarouselModel", name := "<init>", desc := "()V" } : MethodName)) ∈ bc_wd := bc_mem 1348 (by rfl) (by decide +kernel)
set_option maxRecDepth 100000 in
theorem mw_132 : (Cond.code ({ cls := "BroadcastCarousel", name := "<init>", desc := "()V" } : MethodName) prog_1_method_1_code (1 : Nat) (Option.none : Option ClassFile.FieldType)) ∈ bc_wd := bc_mem 132 (by rfl) (by decide +kernel)
set_option maxRecDepth 100000 in
theorem mw_1350 : (Cond.code ({ cls := "BroadcastCarouselModel", name := "<init>", desc := "()V" } : MethodName) prog_11_method_1_code (1 : Nat) (Option.none : Option ClassFile.FieldType)) ∈ bc_wd := bc_mem 1350 (by rfl) (by decide +kernel)
/-! the start: the world at the law's entry (gen_start.py) -/
def ns_tm : List Term := [.string "BroadcastCarousel$Parser" 70, .string "BroadcastCarousel$Parser" 88, .string "BroadcastCarousel$Parser" 93, .string "BroadcastCarousel$Parser" 102, .string "BroadcastCarousel$Parser" 116, .string "BroadcastCarousel$Parser" 118, .string "BroadcastCarousel$Parser" 120, .string "BroadcastCarousel" 88, .string "BroadcastCarousel" 341, .string "BroadcastCarousel" 337, .string "BroadcastCarousel" 344, .string "BroadcastCarousel" 348]
def ns_t (i : Nat) : Term := ns_tm.getD i (.int 0)
def ns_fl : List Cond := flatC (Jvm.Cond.and given_1 narrow_1)
def ns_xE : List Nat := [75, 84, 93, 103, 116, 127, 139, 152, 186, 229, 253, 290]
def ns_xO : List Nat := [76, 85, 94, 104, 117, 128, 140, 153, 187, 230, 254, 291]
def ns_xA : List Nat := [77, 86, 95, 105, 118, 129, 141, 154, 188, 231, 255, 292]
def ns_xL : List Nat := [78, 87, 96, 106, 119, 130, 142, 155, 189, 232, 256, 293]
def ns_xC : List (List Nat) := [[79, 80, 81, 82, 83], [88, 89, 90, 91], [97, 98, 99, 100], [107, 108, 109, 110, 111, 112], [120, 121, 122], [131, 132, 133], [143, 144, 145], [156, 157, 158, 159, 160, 161, 162, 163, 164, 165, 166, 167, 168, 169, 170, 171, 172, 173, 174, 175, 176, 177, 178], [190, 191, 192, 193, 194, 195, 196, 197, 198, 199, 200, 201, 202, 203, 204, 205, 206, 207, 208, 209, 210, 211, 212, 213, 214, 215, 216, 217, 218, 219, 220], [233, 234, 235, 236, 237, 238, 239, 240, 241, 242, 243], [257, 258, 259, 260, 261, 262, 263, 264, 265, 266, 267, 268, 269, 270, 271, 272, 273, 274, 275, 276, 277, 278, 279], [294, 295, 296, 297, 298, 299, 300, 301, 302, 303, 304, 305, 306, 307, 308, 309, 310, 311, 312, 313, 314]]
def ns_xN : List (List Nat) := [[], [92], [101, 102], [113, 114, 115], [123, 124, 125, 126], [134, 135, 136, 137, 138], [146, 147, 148, 149, 150, 151], [179, 180, 181, 182, 183, 184, 185], [221, 222, 223, 224, 225, 226, 227, 228], [244, 245, 246, 247, 248, 249, 250, 251, 252], [280, 281, 282, 283, 284, 285, 286, 287, 288, 289], [315, 316, 317, 318, 319, 320, 321, 322, 323, 324, 325]]
theorem ns_ex : ∀ i : Nat, i < 12 → ns_fl[ns_xE.getD i 0]? = some (Cond.exactly (ns_t i) "java/lang/String") := by decide +kernel
theorem ns_co : ∀ i : Nat, i < 12 → ns_fl[ns_xO.getD i 0]? = some (Cond.eq (.field (ns_t i) "java/lang/String" "coder" "B") (.int 0)) := by decide +kernel
theorem ns_ar : ∀ i : Nat, i < 12 → ns_fl[ns_xA.getD i 0]? = some (Cond.arrayOf (.field (ns_t i) "java/lang/String" "value" "[B") .byte) := by decide +kernel
theorem ns_le : ∀ i : Nat, i < 12 → ns_fl[ns_xL.getD i 0]? = some (Cond.eq (.length (.field (ns_t i) "java/lang/String" "value" "[B")) (.int (Int32.ofNat (bc_len.getD i 0)))) := by decide +kernel
theorem ns_el : ∀ i : Nat, i < 12 → ∀ j : Nat, j < bc_len.getD i 0 → ns_fl[(ns_xC.getD i []).getD j 0]? = some (Cond.eq (.elem (.field (ns_t i) "java/lang/String" "value" "[B") (.int (Int32.ofNat j))) (.int ((bc_byt.getD i []).getD j 0))) := by decide +kernel
theorem ns_ne : ∀ j : Nat, j < 12 → ∀ i : Nat, i < j → ns_fl[(ns_xN.getD j []).getD i 0]? = some (Cond.not (Cond.eq (ns_t i) (ns_t j))) := by decide +kernel
theorem ns_m0 : ns_fl[335]? = some (Cond.eq (ns_t 0) (.string "BroadcastCarouselModel" 149)) := by decide +kernel
theorem ns_m1 : ns_fl[356]? = some (Cond.eq (ns_t 1) (.string "BroadcastCarouselModel" 165)) := by decide +kernel
theorem ns_m2 : ns_fl[378]? = some (Cond.eq (ns_t 2) (.string "BroadcastCarouselModel" 170)) := by decide +kernel
theorem ns_m3 : ns_fl[403]? = some (Cond.eq (ns_t 3) (.string "BroadcastCarouselModel" 175)) := by decide +kernel
theorem ns_m4 : ns_fl[428]? = some (Cond.eq (ns_t 6) (.string "BroadcastCarouselModel" 177)) := by decide +kernel
theorem ns_m5 : ns_fl[449]? = some (Cond.eq (ns_t 4) (.string "BroadcastCarouselModel" 179)) := by decide +kernel
theorem ns_m6 : ns_fl[474]? = some (Cond.eq (ns_t 5) (.string "BroadcastCarouselModel" 181)) := by decide +kernel
theorem ns_c0 : ns_fl[21]? = some (Cond.not (.castable "java/lang/IllegalArgumentException" "java/lang/IllegalStateException")) := by decide +kernel
theorem ns_c1 : ns_fl[22]? = some (Cond.not (.castable "java/util/NoSuchElementException" "java/lang/IllegalStateException")) := by decide +kernel
theorem ns_c2 : ns_fl[34]? = some (Cond.not (.castable "java/util/NoSuchElementException" "java/lang/IllegalArgumentException")) := by decide +kernel
theorem ns_s0 : ns_fl[4]? = some (Cond.eq (.static "java/lang/String" "COMPACT_STRINGS" "Z") (.int 1)) := by decide +kernel
theorem ns_s1 : ns_fl[5]? = some (Cond.isRef (.static "jdk/internal/util/Preconditions" "SIOOBE_FORMATTER" "Ljava/util/function/BiFunction;")) := by decide +kernel
theorem ns_s2 : ns_fl[9]? = some (Cond.isRef (.static "java/lang/Throwable" "UNASSIGNED_STACK" "[Ljava/lang/StackTraceElement;")) := by decide +kernel
theorem ns_s3 : ns_fl[10]? = some (Cond.isRef (.static "java/lang/Throwable" "SUPPRESSED_SENTINEL" "Ljava/util/List;")) := by decide +kernel
theorem ns_in {args : Array Value} {s : State} (h : (Jvm.Cond.and given_1 narrow_1).before args s = true) {w : Cond} {i : Nat} (e : ns_fl[i]? = some w) : w.before args s = true := flat_of_before _ h w (List.mem_of_getElem? e)
theorem ns_strs {args : Array Value} {s : State} {A : Nat → Prop} (h : (Jvm.Cond.and given_1 narrow_1).before args s = true) (hA : ∀ a : Nat, a < s.heap.size → ¬ A a) : ∃ adK adV : Nat → Nat, vk_S 12 bc_len bc_byt adK adV A s s.heap ∧ ∀ i : Nat, i < 12 → (ns_t i).eval args s none [] s = some (.ref (adK i)) :=
  vk_Sof (tm := ns_t) (by decide +kernel) (fun i hi => ns_in h (ns_ex i hi)) (fun i hi => ns_in h (ns_co i hi)) (fun i hi => ns_in h (ns_ar i hi)) (fun i hi => ns_in h (ns_le i hi)) (fun i hi j hj => ns_in h (ns_el i hi j hj)) (fun i j hi hj hij => by
    rcases Nat.lt_or_gt_of_ne hij with q | q
    · exact Or.inl (ns_in h (ns_ne j hj i q))
    · exact Or.inr (ns_in h (ns_ne i hi j q))) hA
/-! the addresses -/
def ns_inv : List (Nat × Int) := [(1, 0), (2, 0), (3, 0), (4, 0), (5, 0), (6, 0), (7, 0), (8, 0), (9, 0), (10, 0), (11, 0), (12, 0), (13, 0), (14, 0), (12, 1), (13, 1), (14, 1), (12, 2), (13, 2), (14, 2), (12, 3), (13, 3), (14, 3), (5, 1), (6, 1), (7, 1), (8, 1), (9, 1), (10, 1), (11, 1), (12, 4), (13, 4), (14, 4), (12, 5), (13, 5), (14, 5), (12, 6), (13, 6), (14, 6), (12, 7), (13, 7), (14, 7), (15, 0), (16, 0), (5, 2), (6, 2), (7, 2), (8, 2), (9, 2), (10, 2), (11, 2), (12, 8), (13, 8), (14, 8), (12, 9), (13, 9), (14, 9), (12, 10), (13, 10), (14, 10), (12, 11), (13, 11), (14, 11), (5, 3), (6, 3), (7, 3), (8, 3), (9, 3), (10, 3), (11, 3), (12, 12), (13, 12), (14, 12), (12, 13), (13, 13), (14, 13), (12, 14), (13, 14), (14, 14), (12, 15), (13, 15), (14, 15), (5, 4), (6, 4), (7, 4), (8, 4), (9, 4), (10, 4), (11, 4), (12, 16), (13, 16), (14, 16), (12, 17), (13, 17), (14, 17), (12, 18), (13, 18), (14, 18), (12, 19), (13, 19), (14, 19), (5, 5), (6, 5), (7, 5), (8, 5), (9, 5), (10, 5), (11, 5), (12, 20), (13, 20), (14, 20), (12, 21), (13, 21), (14, 21), (12, 22), (13, 22), (14, 22), (12, 23), (13, 23), (14, 23), (5, 6), (6, 6), (7, 6), (8, 6), (9, 6), (10, 6), (11, 6), (12, 24), (13, 24), (14, 24), (12, 25), (13, 25), (14, 25), (12, 26), (13, 26), (14, 26), (12, 27), (13, 27), (14, 27), (5, 7), (6, 7), (7, 7), (8, 7), (9, 7), (10, 7), (11, 7), (12, 28), (13, 28), (14, 28), (12, 29), (13, 29), (14, 29), (12, 30), (13, 30), (14, 30), (12, 31), (13, 31), (14, 31), (5, 8), (6, 8), (7, 8), (8, 8), (9, 8), (10, 8), (11, 8), (12, 32), (13, 32), (14, 32), (12, 33), (13, 33), (14, 33), (12, 34), (13, 34), (14, 34), (12, 35), (13, 35), (14, 35), (5, 9), (6, 9), (7, 9), (8, 9), (9, 9), (10, 9), (11, 9), (12, 36), (13, 36), (14, 36), (12, 37), (13, 37), (14, 37), (12, 38), (13, 38), (14, 38), (12, 39), (13, 39), (14, 39), (5, 10), (6, 10), (7, 10), (8, 10), (9, 10), (10, 10), (11, 10), (12, 40), (13, 40), (14, 40), (12, 41), (13, 41), (14, 41), (12, 42), (13, 42), (14, 42), (12, 43), (13, 43), (14, 43), (5, 11), (6, 11), (7, 11), (8, 11), (9, 11), (10, 11), (11, 11), (12, 44), (13, 44), (14, 44), (12, 45), (13, 45), (14, 45), (12, 46), (13, 46), (14, 46), (12, 47), (13, 47), (14, 47), (17, 0), (18, 0), (19, 0), (20, 0), (21, 0), (21, 1), (21, 2), (21, 3), (21, 4), (21, 5), (21, 6), (21, 7), (21, 8), (21, 9), (21, 10), (21, 11), (21, 12), (21, 13), (21, 14), (21, 15), (22, 0), (23, 0), (24, 0), (6, 12), (7, 12), (8, 12), (9, 12), (10, 12), (17, 1), (18, 1), (19, 1), (20, 1), (21, 16), (21, 17), (21, 18), (21, 19), (21, 20), (21, 21), (21, 22), (21, 23), (21, 24), (21, 25), (21, 26), (21, 27), (21, 28), (21, 29), (21, 30), (21, 31), (22, 1), (23, 1), (24, 1), (12, 48), (13, 48), (14, 48), (25, 0), (26, 0), (27, 0), (28, 0), (29, 0), (30, 0), (31, 0), (32, 0), (12, 49), (13, 49), (14, 49), (33, 0), (34, 0), (35, 0), (36, 0), (37, 0), (38, 0), (39, 0), (40, 0), (41, 0), (42, 0), (43, 0), (44, 0), (45, 0), (46, 0), (47, 0), (48, 0), (49, 0), (50, 0), (51, 0), (52, 0)]
set_option maxRecDepth 100000 in
theorem ns_off : ∀ k : Nat, k < 53 → ∀ j : Nat, j < (bc_n k).toNat → ns_inv[(bz_off k (j : Int)).toNat]? = some (k, (j : Int)) ∧ 0 ≤ bz_off k (j : Int) := by decide +kernel
theorem ns_k {k : Nat} {j : Int} (h0 : 0 ≤ j) (h1 : j < bc_n k) : k < 53 := by
  by_cases h : k < 53
  · exact h
  · have e : bc_n k = 0 := by
      unfold bc_n
      split <;> omega
    omega
theorem ns_offI {k : Nat} {j : Int} (h0 : 0 ≤ j) (h1 : j < bc_n k) : ns_inv[(bz_off k j).toNat]? = some (k, j) ∧ 0 ≤ bz_off k j := by
  have h := ns_off k (ns_k h0 h1) j.toNat (by omega)
  rw [Int.toNat_of_nonneg h0] at h
  exact h
theorem ns_lt {k : Nat} {j : Int} (h0 : 0 ≤ j) (h1 : j < bc_n k) : bz_off k j < 319 := by
  have h := ns_offI h0 h1
  have h2 := (List.getElem?_eq_some_iff.mp h.1).1
  have h3 : ns_inv.length = 319 := by decide +kernel
  omega
theorem ns_inj {k k' : Nat} {j j' : Int} (h0 : 0 ≤ j) (h1 : j < bc_n k) (h0' : 0 ≤ j') (h1' : j' < bc_n k') (e : bz_off k j = bz_off k' j') : k = k' ∧ j = j' := by
  have a := (ns_offI h0 h1).1
  have b := (ns_offI h0' h1').1
  rw [e, b] at a
  have c := Option.some.inj a
  exact ⟨(congrArg Prod.fst c).symm, (congrArg Prod.snd c).symm⟩
def ns_ad (h : Nat) (adK adV : Nat → Nat) : Nat → Int → Nat := fun k j => if k = 100 then adK j.toNat else if k = 101 then adV j.toNat else ((h : Int) + bz_off k j).toNat
theorem ns_adK {h : Nat} {adK adV : Nat → Nat} (i : Nat) : ns_ad h adK adV 100 (i : Int) = adK i := by simp [ns_ad]
theorem ns_adV {h : Nat} {adK adV : Nat → Nat} (i : Nat) : ns_ad h adK adV 101 (i : Int) = adV i := by simp [ns_ad]
theorem ns_adZ {h : Nat} {adK adV : Nat → Nat} {k : Nat} {j : Int} (h0 : 0 ≤ j) (h1 : j < bc_n k) : (ns_ad h adK adV k j : Int) = (h : Int) + bz_off k j := by
  have a := ns_k h0 h1
  have b := (ns_offI h0 h1).2
  unfold ns_ad
  rw [if_neg (by omega), if_neg (by omega)]
  omega
set_option maxRecDepth 100000 in
theorem lt_138 : (Cond.methodLinkNest "BroadcastCarousel" (26 : Nat) ({ cls := "BroadcastCarousel$Parser", name := "<init>", desc := "()V" } : MethodName) "BroadcastCarousel") ∈ lw_tbl := List.mem_of_getElem? (i := 138) (by rfl)
set_option maxRecDepth 100000 in
theorem lt_174 : (Cond.methodLinkNest "BroadcastCarousel$State" (11 : Nat) ({ cls := "BroadcastCarousel$Settings", name := "<init>", desc := "()V" } : MethodName) "BroadcastCarousel") ∈ lw_tbl := List.mem_of_getElem? (i := 174) (by rfl)
set_option maxRecDepth 100000 in
theorem lt_236 : (Cond.methodLinkNest "BroadcastCarousel$State" (28 : Nat) ({ cls := "BroadcastCarousel$Client", name := "<init>", desc := "()V" } : MethodName) "BroadcastCarousel") ∈ lw_tbl := List.mem_of_getElem? (i := 236) (by rfl)
set_option maxRecDepth 100000 in
theorem lt_319 : (Cond.methodLinkNest "BroadcastCarousel" (50 : Nat) ({ cls := "BroadcastCarousel$Program", name := "<init>", desc := "()V" } : MethodName) "BroadcastCarousel") ∈ lw_tbl := List.mem_of_getElem? (i := 319) (by rfl)
set_option maxRecDepth 100000 in
theorem lt_367 : (Cond.methodLinkNest "BroadcastCarousel" (57 : Nat) ({ cls := "BroadcastCarousel$Settings", name := "<init>", desc := "()V" } : MethodName) "BroadcastCarousel") ∈ lw_tbl := List.mem_of_getElem? (i := 367) (by rfl)
set_option maxRecDepth 100000 in
theorem lt_369 : (Cond.methodLinkNest "BroadcastCarousel" (67 : Nat) ({ cls := "BroadcastCarousel$Client", name := "<init>", desc := "()V" } : MethodName) "BroadcastCarousel") ∈ lw_tbl := List.mem_of_getElem? (i := 369) (by rfl)
set_option maxRecDepth 100000 in
theorem lt_372 : (Cond.methodLinkNest "BroadcastCarousel" (74 : Nat) ({ cls := "BroadcastCarousel$Tiers", name := "<init>", desc := "()V" } : MethodName) "BroadcastCarousel") ∈ lw_tbl := List.mem_of_getElem? (i := 372) (by rfl)
set_option maxRecDepth 100000 in
theorem lt_401 : (Cond.methodLinkNest "BroadcastCarousel" (81 : Nat) ({ cls := "BroadcastCarousel$Plan", name := "<init>", desc := "()V" } : MethodName) "BroadcastCarousel") ∈ lw_tbl := List.mem_of_getElem? (i := 401) (by rfl)
set_option maxRecDepth 100000 in
theorem lt_406 : (Cond.methodLinkNest "BroadcastCarousel$Plan" (27 : Nat) ({ cls := "BroadcastCarousel$Client", name := "<init>", desc := "()V" } : MethodName) "BroadcastCarousel") ∈ lw_tbl := List.mem_of_getElem? (i := 406) (by rfl)
set_option maxRecDepth 100000 in
theorem lt_817 : (Cond.methodLinkNest "BroadcastCarousel$Client" (56 : Nat) ({ cls := "BroadcastCarousel", name := "isIn", desc := "(II)Z" } : MethodName) "BroadcastCarousel") ∈ lw_tbl := List.mem_of_getElem? (i := 817) (by rfl)
set_option maxRecDepth 100000 in
theorem lt_1308 : (Cond.methodLinkNest "BroadcastCarousel$Plan" (55 : Nat) ({ cls := "BroadcastCarousel", name := "isIn", desc := "(II)Z" } : MethodName) "BroadcastCarousel") ∈ lw_tbl := List.mem_of_getElem? (i := 1308) (by rfl)
set_option maxRecDepth 100000 in
theorem lt_512 : (Cond.stringRef "BroadcastCarousel$Parser" (70 : Nat) "index") ∈ lw_tbl := List.mem_of_getElem? (i := 512) (by rfl)
set_option maxRecDepth 100000 in
theorem lt_585 : (Cond.stringRef "BroadcastCarousel$Parser" (88 : Nat) "disk") ∈ lw_tbl := List.mem_of_getElem? (i := 585) (by rfl)
set_option maxRecDepth 100000 in
theorem lt_594 : (Cond.stringRef "BroadcastCarousel$Parser" (93 : Nat) "item") ∈ lw_tbl := List.mem_of_getElem? (i := 594) (by rfl)
set_option maxRecDepth 100000 in
theorem lt_603 : (Cond.stringRef "BroadcastCarousel$Parser" (102 : Nat) "client") ∈ lw_tbl := List.mem_of_getElem? (i := 603) (by rfl)
set_option maxRecDepth 100000 in
theorem lt_608 : (Cond.stringRef "BroadcastCarousel$Parser" (116 : Nat) "lfu") ∈ lw_tbl := List.mem_of_getElem? (i := 608) (by rfl)
set_option maxRecDepth 100000 in
theorem lt_609 : (Cond.stringRef "BroadcastCarousel$Parser" (118 : Nat) "pix") ∈ lw_tbl := List.mem_of_getElem? (i := 609) (by rfl)
set_option maxRecDepth 100000 in
theorem lt_610 : (Cond.stringRef "BroadcastCarousel$Parser" (120 : Nat) "lru") ∈ lw_tbl := List.mem_of_getElem? (i := 610) (by rfl)
set_option maxRecDepth 100000 in
theorem lt_726 : (Cond.stringRef "BroadcastCarousel" (88 : Nat) "the text buffer is full") ∈ lw_tbl := List.mem_of_getElem? (i := 726) (by rfl)
set_option maxRecDepth 100000 in
theorem lt_776 : (Cond.stringRef "BroadcastCarousel" (341 : Nat) "an argument is out of its range") ∈ lw_tbl := List.mem_of_getElem? (i := 776) (by rfl)
set_option maxRecDepth 100000 in
theorem lt_794 : (Cond.stringRef "BroadcastCarousel" (337 : Nat) "no carousel") ∈ lw_tbl := List.mem_of_getElem? (i := 794) (by rfl)
set_option maxRecDepth 100000 in
theorem lt_1179 : (Cond.stringRef "BroadcastCarousel" (344 : Nat) "an argument is negative") ∈ lw_tbl := List.mem_of_getElem? (i := 1179) (by rfl)
set_option maxRecDepth 100000 in
theorem lt_1189 : (Cond.stringRef "BroadcastCarousel" (348 : Nat) "there are not so many") ∈ lw_tbl := List.mem_of_getElem? (i := 1189) (by rfl)
set_option maxRecDepth 100000 in
theorem lt_1530 : (Cond.stringRef "BroadcastCarouselModel" (149 : Nat) "index") ∈ lw_tbl := List.mem_of_getElem? (i := 1530) (by rfl)
set_option maxRecDepth 100000 in
theorem lt_1553 : (Cond.stringRef "BroadcastCarouselModel" (165 : Nat) "disk") ∈ lw_tbl := List.mem_of_getElem? (i := 1553) (by rfl)
set_option maxRecDepth 100000 in
theorem lt_1558 : (Cond.stringRef "BroadcastCarouselModel" (170 : Nat) "item") ∈ lw_tbl := List.mem_of_getElem? (i := 1558) (by rfl)
set_option maxRecDepth 100000 in
theorem lt_1563 : (Cond.stringRef "BroadcastCarouselModel" (175 : Nat) "client") ∈ lw_tbl := List.mem_of_getElem? (i := 1563) (by rfl)
set_option maxRecDepth 100000 in
theorem lt_1564 : (Cond.stringRef "BroadcastCarouselModel" (177 : Nat) "lru") ∈ lw_tbl := List.mem_of_getElem? (i := 1564) (by rfl)
set_option maxRecDepth 100000 in
theorem lt_1565 : (Cond.stringRef "BroadcastCarouselModel" (179 : Nat) "lfu") ∈ lw_tbl := List.mem_of_getElem? (i := 1565) (by rfl)
set_option maxRecDepth 100000 in
theorem lt_1566 : (Cond.stringRef "BroadcastCarouselModel" (181 : Nat) "pix") ∈ lw_tbl := List.mem_of_getElem? (i := 1566) (by rfl)
set_option maxRecDepth 100000 in
theorem lt_530 : (Cond.laysStatic "java/lang/String" "COMPACT_STRINGS" "Z") ∈ lw_tbl := List.mem_of_getElem? (i := 530) (by rfl)
set_option maxRecDepth 100000 in
theorem lt_546 : (Cond.laysStatic "jdk/internal/util/Preconditions" "SIOOBE_FORMATTER" "Ljava/util/function/BiFunction;") ∈ lw_tbl := List.mem_of_getElem? (i := 546) (by rfl)
set_option maxRecDepth 100000 in
theorem lt_712 : (Cond.laysStatic "java/lang/Throwable" "UNASSIGNED_STACK" "[Ljava/lang/StackTraceElement;") ∈ lw_tbl := List.mem_of_getElem? (i := 712) (by rfl)
set_option maxRecDepth 100000 in
theorem lt_714 : (Cond.laysStatic "java/lang/Throwable" "SUPPRESSED_SENTINEL" "Ljava/util/List;") ∈ lw_tbl := List.mem_of_getElem? (i := 714) (by rfl)
set_option maxRecDepth 100000 in
theorem lt_121 : (Cond.initialized "java/lang/String") ∈ lw_tbl := List.mem_of_getElem? (i := 121) (by rfl)
set_option maxRecDepth 100000 in
theorem lt_123 : (Cond.initialized "jdk/internal/util/Preconditions") ∈ lw_tbl := List.mem_of_getElem? (i := 123) (by rfl)
set_option maxRecDepth 100000 in
theorem lt_115 : (Cond.initialized "java/lang/Throwable") ∈ lw_tbl := List.mem_of_getElem? (i := 115) (by rfl)
set_option maxRecDepth 100000 in
theorem lt_687 : (Cond.castable "java/lang/IllegalStateException" "java/lang/IllegalStateException") ∈ lw_tbl := List.mem_of_getElem? (i := 687) (by rfl)
set_option maxRecDepth 100000 in
theorem lt_769 : (Cond.castable "java/lang/IllegalArgumentException" "java/lang/IllegalArgumentException") ∈ lw_tbl := List.mem_of_getElem? (i := 769) (by rfl)
set_option maxRecDepth 100000 in
theorem lt_1182 : (Cond.castable "java/util/NoSuchElementException" "java/util/NoSuchElementException") ∈ lw_tbl := List.mem_of_getElem? (i := 1182) (by rfl)
set_option maxRecDepth 100000 in
theorem lt_688 : (Cond.declares ({ cls := "java/lang/RuntimeException", name := "<init>", desc := "()V" } : MethodName)) ∈ lw_tbl := List.mem_of_getElem? (i := 688) (by rfl)
set_option maxRecDepth 100000 in
theorem lt_689 : (Cond.declares ({ cls := "java/lang/RuntimeException", name := "<init>", desc := "(Ljava/lang/String;)V" } : MethodName)) ∈ lw_tbl := List.mem_of_getElem? (i := 689) (by rfl)
set_option maxRecDepth 100000 in
theorem lt_690 : (Cond.declares ({ cls := "java/lang/Exception", name := "<init>", desc := "()V" } : MethodName)) ∈ lw_tbl := List.mem_of_getElem? (i := 690) (by rfl)
set_option maxRecDepth 100000 in
theorem lt_691 : (Cond.declares ({ cls := "java/lang/Exception", name := "<init>", desc := "(Ljava/lang/String;)V" } : MethodName)) ∈ lw_tbl := List.mem_of_getElem? (i := 691) (by rfl)
set_option maxRecDepth 100000 in
theorem lt_692 : (Cond.declares ({ cls := "java/lang/Throwable", name := "<init>", desc := "()V" } : MethodName)) ∈ lw_tbl := List.mem_of_getElem? (i := 692) (by rfl)
set_option maxRecDepth 100000 in
theorem lt_693 : (Cond.declares ({ cls := "java/lang/Throwable", name := "<init>", desc := "(Ljava/lang/String;)V" } : MethodName)) ∈ lw_tbl := List.mem_of_getElem? (i := 693) (by rfl)
set_option maxRecDepth 100000 in
theorem lt_234 : (Cond.arrayOver (FieldType.object "BroadcastCarousel$Client")) ∈ lw_tbl := List.mem_of_getElem? (i := 234) (by rfl)
set_option maxRecDepth 100000 in
theorem lt_304 : (Cond.arrayOver (FieldType.object "BroadcastCarousel$State")) ∈ lw_tbl := List.mem_of_getElem? (i := 304) (by rfl)
set_option maxRecDepth 100000 in
theorem lt_324 : (Cond.arrayOver (FieldType.array FieldType.int)) ∈ lw_tbl := List.mem_of_getElem? (i := 324) (by rfl)
theorem ns_arrP {s : State} {args : Array Value} {ty : FieldType} (h : (Cond.arrayClass ty).before args s = true) : ∃ cA : ClassId, ArrOfT s cA ty ∧ s.vm.findClass ("[" ++ ty.toString) = some cA := by
  obtain ⟨cA, kA, comp, f1, f2, f3⟩ := Cond.arrayClass_spec (args := args) (first := s) (o := none) (s := s) (idx := []) (type := ty) h
  exact ⟨cA, fun n z => ⟨fun k h => (by cases h), kA, f2, comp, f3⟩, f1⟩
theorem ns_arrO {s : State} {args : Array Value} {C : String} (h : (Cond.arrayOver (.object C)).before args s = true) : ∃ cA : ClassId, ArrOfT s cA (.object C) ∧ va_RA s cA (.object C) := by
  obtain ⟨comp, cA, kA, f4, f0, f2, f3, f1⟩ := Cond.arrayOver_spec (args := args) (first := s) (o := none) (s := s) (idx := []) (n := C) h
  exact ⟨cA, fun n z => ⟨fun k h => (by cases h), kA, f2, comp, f3⟩, kA, comp, f2, f3, f4, f1⟩
theorem ns_arrA {s : State} {args : Array Value} {t : FieldType} (h : (Cond.arrayOver (.array t)).before args s = true) : ∃ cA : ClassId, ArrOfT s cA (.array t) ∧ s.vm.findClass ("[" ++ (FieldType.array t).toString) = some cA := by
  obtain ⟨comp, cA, kA, f4, f0, f2, f3, f1⟩ := arrayOverA_spec (args := args) (first := s) (o := none) (s := s) (idx := []) (t := t) h
  exact ⟨cA, fun n z => ⟨fun k h => (by cases h), kA, f2, comp, f3⟩, f1⟩
set_option maxHeartbeats 1000000 in
theorem ns_world {s : State} {args : Array Value} (l : Launch) (hl : l.stackTraces = false) (hts : ∀ w ∈ lw_tbl, w.before args s = true) (hgv : (Jvm.Cond.and given_1 narrow_1).before args s = true) : ∃ G : bc_G, G.1 = l ∧ G.2.2.2.2 = s.heap ∧ bz_ad G ∧ bc_ok G ∧ bz_S G s := by
  have htb : ∀ w ∈ bc_wd, w.before args s = true := fun w hw => hts w (List.mem_filter.mp hw).1
  obtain ⟨c0, i0, k0⟩ := u_known (ws := bc_wd) (C := RX0) (T := TX0) (N := 11) (n := 11) htb in_X0 (htb _ mw_235)
  obtain ⟨c1, i1, k1⟩ := u_known (ws := bc_wd) (C := RX1) (T := TX1) (N := 3) (n := 3) htb in_X1 (htb _ mw_298)
  obtain ⟨c2, i2, k2⟩ := u_known (ws := bc_wd) (C := RX2) (T := TX2) (N := 7) (n := 7) htb in_X2 (htb _ mw_137)
  obtain ⟨c3, i3, k3⟩ := u_known (ws := bc_wd) (C := RX3) (T := TX3) (N := 5) (n := 5) htb in_X3 (htb _ mw_400)
  obtain ⟨c4, i4, k4⟩ := u_known (ws := bc_wd) (C := RX4) (T := TX4) (N := 12) (n := 12) htb in_X4 (htb _ mw_318)
  obtain ⟨c5, i5, k5⟩ := u_known (ws := bc_wd) (C := RX5) (T := TX5) (N := 8) (n := 8) htb in_X5 (htb _ mw_173)
  obtain ⟨c6, i6, k6⟩ := u_known (ws := bc_wd) (C := RX6) (T := TX6) (N := 3) (n := 3) htb in_X6 (htb _ mw_167)
  obtain ⟨c7, i7, k7⟩ := u_known (ws := bc_wd) (C := RX7) (T := TX7) (N := 6) (n := 6) htb in_X7 (htb _ mw_371)
  obtain ⟨c8, i8, k8⟩ := u_known (ws := bc_wd) (C := RX8) (T := TX8) (N := 14) (n := 14) htb in_X8 (htb _ mw_129)
  obtain ⟨c9, i9, k9⟩ := u_known (ws := bc_wd) (C := RX9) (T := TX9) (N := 42) (n := 42) htb in_X9 (htb _ mw_1347)
  obtain ⟨a0, p0, q0⟩ := ns_arrP (htb _ mw_232)
  obtain ⟨a1, p1, q1⟩ := ns_arrP (htb _ mw_165)
  obtain ⟨a2, p2, q2⟩ := ns_arrP (htb _ mw_1931)
  obtain ⟨a3, p3, q3⟩ := ns_arrP (htb _ mw_1932)
  obtain ⟨a4, p4, q4⟩ := ns_arrO (hts _ lt_304)
  obtain ⟨a5, p5, q5⟩ := ns_arrO (hts _ lt_234)
  obtain ⟨a6, p6, q6⟩ := ns_arrA (hts _ lt_324)
  obtain ⟨adK, adV, hV, hev⟩ := ns_strs (A := fun q => s.heap.size ≤ q) hgv (fun a h q => absurd h (Nat.not_lt.mpr q))
  have hAA : ∀ a : Nat, a < s.heap.size → ¬ (fun q : Nat => s.heap.size ≤ q) a := fun a h q => absurd h (Nat.not_lt.mpr q)
  have hK : va_K (fun k => match k with | 0 => c0 | 1 => c1 | 2 => c2 | 3 => c3 | 4 => c4 | 5 => c5 | 6 => c6 | 7 => c7 | 8 => c8 | _ => c9, fun k => match k with | 0 => i0 | 1 => i1 | 2 => i2 | 3 => i3 | 4 => i4 | 5 => i5 | 6 => i6 | 7 => i7 | 8 => i8 | _ => i9) bc_cl [(a0, .int), (a1, .byte), (a2, .long), (a3, .double), (a4, .object RX6), (a5, .object RX0), (a6, .array .int)] s := by
    refine ⟨fun k q hq => ?_, fun k q hq => ?_⟩
    · match k, hq with
      | 0, hq => cases hq; exact k0
      | 1, hq => cases hq; exact k1
      | 2, hq => cases hq; exact k2
      | 3, hq => cases hq; exact k3
      | 4, hq => cases hq; exact k4
      | 5, hq => cases hq; exact k5
      | 6, hq => cases hq; exact k6
      | 7, hq => cases hq; exact k7
      | 8, hq => cases hq; exact k8
      | 9, hq => cases hq; exact k9
      | k + 10, hq => simp [bc_cl] at hq
    · match k, hq with
      | 0, hq => cases hq; exact ⟨p0, q0⟩
      | 1, hq => cases hq; exact ⟨p1, q1⟩
      | 2, hq => cases hq; exact ⟨p2, q2⟩
      | 3, hq => cases hq; exact ⟨p3, q3⟩
      | 4, hq => cases hq; exact ⟨p4, q4⟩
      | 5, hq => cases hq; exact ⟨p5, q5⟩
      | 6, hq => cases hq; exact ⟨p6, q6⟩
      | k + 7, hq => simp at hq
  have hR : ∀ (own : String) (k : Nat) (tx : String) (i : Nat), (Cond.stringRef own k tx).before args s = true → (Term.string own k).eval args s none [] s = some (.ref (adK i)) → vk_R own k tx (ns_ad s.heap.size adK adV 100 (i : Int)) s := fun own k tx i a b => by
    rw [ns_adK]
    exact vk_R.of a b
  refine ⟨(l, (fun k => match k with | 0 => c0 | 1 => c1 | 2 => c2 | 3 => c3 | 4 => c4 | 5 => c5 | 6 => c6 | 7 => c7 | 8 => c8 | _ => c9, fun k => match k with | 0 => i0 | 1 => i1 | 2 => i2 | 3 => i3 | 4 => i4 | 5 => i5 | 6 => i6 | 7 => i7 | 8 => i8 | _ => i9), [(a0, .int), (a1, .byte), (a2, .long), (a3, .double), (a4, .object RX6), (a5, .object RX0), (a6, .array .int)], ns_ad s.heap.size adK adV, s.heap), rfl, rfl, fun k j h0 h1 => ns_adZ h0 h1, ⟨hl, rfl, fun k j h0 h1 => ?_, fun k k' j j' h0 h1 h0' h1' e => ?_⟩, ⟨hK, ?_, ⟨?_, ?_⟩, ⟨?_, ?_, ?_, ?_⟩, ?_, ?_, ?_⟩, ?_, ?_, ?_⟩
  · have a := ns_adZ (h := s.heap.size) (adK := adK) (adV := adV) h0 h1
    have b := (ns_offI h0 h1).2
    show s.heap.size ≤ ns_ad s.heap.size adK adV k j
    omega
  · have a := ns_adZ (h := s.heap.size) (adK := adK) (adV := adV) h0 h1
    have b := ns_adZ (h := s.heap.size) (adK := adK) (adV := adV) h0' h1'
    have e' : ns_ad s.heap.size adK adV k j = ns_ad s.heap.size adK adV k' j' := e
    rw [e', b] at a
    exact ns_inj h0 h1 h0' h1' (by omega)
  · intro w hw
    simp only [bc_nest, List.mem_cons, List.not_mem_nil, or_false] at hw
    rcases hw with rfl | rfl | rfl | rfl | rfl | rfl | rfl | rfl | rfl | rfl | rfl
    · exact va_Nw.of rfl (hts _ lt_138)
    · exact va_Nw.of rfl (hts _ lt_174)
    · exact va_Nw.of rfl (hts _ lt_236)
    · exact va_Nw.of rfl (hts _ lt_319)
    · exact va_Nw.of rfl (hts _ lt_367)
    · exact va_Nw.of rfl (hts _ lt_369)
    · exact va_Nw.of rfl (hts _ lt_372)
    · exact va_Nw.of rfl (hts _ lt_401)
    · exact va_Nw.of rfl (hts _ lt_406)
    · exact va_Nw.of rfl (hts _ lt_817)
    · exact va_Nw.of rfl (hts _ lt_1308)
  · exact vx_Zqof (hts _ lt_712) (hts _ lt_115) (ns_in hgv ns_s2) hAA
  · exact vx_Zqof (hts _ lt_714) (hts _ lt_115) (ns_in hgv ns_s3) hAA
  · have e1 : (fun i : Nat => ns_ad s.heap.size adK adV 100 (i : Int)) = adK := funext (fun i => ns_adK i)
    have e2 : (fun i : Nat => ns_ad s.heap.size adK adV 101 (i : Int)) = adV := funext (fun i => ns_adV i)
    show vk_S 12 bc_len bc_byt (fun i : Nat => ns_ad s.heap.size adK adV 100 (i : Int)) (fun i : Nat => ns_ad s.heap.size adK adV 101 (i : Int)) (fun q => s.heap.size ≤ q) s s.heap
    rw [e1, e2]
    exact hV
  · intro q hq
    simp only [bc_strs, List.mem_cons, List.not_mem_nil, or_false] at hq
    rcases hq with rfl | rfl | rfl | rfl | rfl | rfl | rfl | rfl | rfl | rfl | rfl | rfl | rfl | rfl | rfl | rfl | rfl | rfl | rfl
    · exact hR _ _ _ 0 (hts _ lt_512) (hev 0 (by decide))
    · exact hR _ _ _ 1 (hts _ lt_585) (hev 1 (by decide))
    · exact hR _ _ _ 2 (hts _ lt_594) (hev 2 (by decide))
    · exact hR _ _ _ 3 (hts _ lt_603) (hev 3 (by decide))
    · exact hR _ _ _ 4 (hts _ lt_608) (hev 4 (by decide))
    · exact hR _ _ _ 5 (hts _ lt_609) (hev 5 (by decide))
    · exact hR _ _ _ 6 (hts _ lt_610) (hev 6 (by decide))
    · exact hR _ _ _ 7 (hts _ lt_726) (hev 7 (by decide))
    · exact hR _ _ _ 8 (hts _ lt_776) (hev 8 (by decide))
    · exact hR _ _ _ 9 (hts _ lt_794) (hev 9 (by decide))
    · exact hR _ _ _ 10 (hts _ lt_1179) (hev 10 (by decide))
    · exact hR _ _ _ 11 (hts _ lt_1189) (hev 11 (by decide))
    · exact hR _ _ _ 0 (hts _ lt_1530) (va_eqR (ns_in hgv ns_m0) (hev 0 (by decide)))
    · exact hR _ _ _ 1 (hts _ lt_1553) (va_eqR (ns_in hgv ns_m1) (hev 1 (by decide)))
    · exact hR _ _ _ 2 (hts _ lt_1558) (va_eqR (ns_in hgv ns_m2) (hev 2 (by decide)))
    · exact hR _ _ _ 3 (hts _ lt_1563) (va_eqR (ns_in hgv ns_m3) (hev 3 (by decide)))
    · exact hR _ _ _ 6 (hts _ lt_1564) (va_eqR (ns_in hgv ns_m4) (hev 6 (by decide)))
    · exact hR _ _ _ 4 (hts _ lt_1565) (va_eqR (ns_in hgv ns_m5) (hev 4 (by decide)))
    · exact hR _ _ _ 5 (hts _ lt_1566) (va_eqR (ns_in hgv ns_m6) (hev 5 (by decide)))
  · exact va_Zof (hts _ lt_530) (hts _ lt_121) (va_eqt (ns_in hgv ns_s0)) hAA
  · exact va_Zqof (hts _ lt_546) (hts _ lt_123) (ns_in hgv ns_s1) hAA
  · intro q hq
    simp only [bc_casts, List.mem_cons, List.not_mem_nil, or_false] at hq
    rcases hq with rfl | rfl | rfl
    · exact va_Nw.of rfl (hts _ lt_687)
    · exact va_Nw.of rfl (hts _ lt_769)
    · exact va_Nw.of rfl (hts _ lt_1182)
  · intro q hq
    simp only [bc_nc, List.mem_cons, List.not_mem_nil, or_false] at hq
    rcases hq with rfl | rfl | rfl
    · exact va_Nc.of (ns_in hgv ns_c0)
    · exact va_Nc.of (ns_in hgv ns_c1)
    · exact va_Nc.of (ns_in hgv ns_c2)
  · intro q hq
    simp only [bc_decl, List.mem_cons, List.not_mem_nil, or_false] at hq
    rcases hq with rfl | rfl | rfl | rfl | rfl | rfl
    · exact va_Nw.of rfl (hts _ lt_688)
    · exact va_Nw.of rfl (hts _ lt_689)
    · exact va_Nw.of rfl (hts _ lt_690)
    · exact va_Nw.of rfl (hts _ lt_691)
    · exact va_Nw.of rfl (hts _ lt_692)
    · exact va_Nw.of rfl (hts _ lt_693)
  · exact va_AO.of (hts _ lt_234)
  · exact va_AO.of (hts _ lt_304)
  · exact hts _ lt_324
