set_option maxRecDepth 100000 in
theorem mw_525 : (Cond.methodLink "java/lang/String" (335 : Nat) ({ cls := "java/lang/String", name := "coder", desc := "()B" } : MethodName)) ∈ bc_wd := bc_mem 525 (by rfl) (by decide +kernel)
set_option maxRecDepth 100000 in
theorem mw_526 : (Cond.instanceMethod ({ cls := "java/lang/String", name := "coder", desc := "()B" } : MethodName)) ∈ bc_wd := bc_mem 526 (by rfl) (by decide +kernel)
set_option maxRecDepth 100000 in
theorem mw_527 : (Cond.selects "java/lang/String" ({ cls := "java/lang/String", name := "coder", desc := "()B" } : MethodName) ({ cls := "java/lang/String", name := "coder", desc := "()B" } : MethodName)) ∈ bc_wd := bc_mem 527 (by rfl) (by decide +kernel)
set_option maxRecDepth 100000 in
theorem mw_121 : (Cond.initialized "java/lang/String") ∈ bc_wd := bc_mem 121 (by rfl) (by decide +kernel)
set_option maxRecDepth 100000 in
theorem mw_528 : (Cond.code ({ cls := "java/lang/String", name := "coder", desc := "()B" } : MethodName) prog_21_method_152_code (1 : Nat) (Option.some ClassFile.FieldType.byte)) ∈ bc_wd := bc_mem 528 (by rfl) (by decide +kernel)
set_option maxRecDepth 100000 in
theorem mw_535 : (Cond.methodLink "java/lang/String" (492 : Nat) ({ cls := "java/lang/String", name := "isLatin1", desc := "()Z" } : MethodName)) ∈ bc_wd := bc_mem 535 (by rfl) (by decide +kernel)
set_option maxRecDepth 100000 in
theorem mw_536 : (Cond.instanceMethod ({ cls := "java/lang/String", name := "isLatin1", desc := "()Z" } : MethodName)) ∈ bc_wd := bc_mem 536 (by rfl) (by decide +kernel)
set_option maxRecDepth 100000 in
theorem mw_537 : (Cond.selects "java/lang/String" ({ cls := "java/lang/String", name := "isLatin1", desc := "()Z" } : MethodName) ({ cls := "java/lang/String", name := "isLatin1", desc := "()Z" } : MethodName)) ∈ bc_wd := bc_mem 537 (by rfl) (by decide +kernel)
set_option maxRecDepth 100000 in
theorem mw_538 : (Cond.code ({ cls := "java/lang/String", name := "isLatin1", desc := "()Z" } : MethodName) prog_21_method_154_code (1 : Nat) (Option.some ClassFile.FieldType.boolean)) ∈ bc_wd := bc_mem 538 (by rfl) (by decide +kernel)
set_option maxRecDepth 100000 in
theorem mw_521 : (Cond.methodLink "BroadcastCarousel$Parser" (122 : Nat) ({ cls := "java/lang/String", name := "length", desc := "()I" } : MethodName)) ∈ bc_wd := bc_mem 521 (by rfl) (by decide +kernel)
set_option maxRecDepth 100000 in
theorem mw_522 : (Cond.instanceMethod ({ cls := "java/lang/String", name := "length", desc := "()I" } : MethodName)) ∈ bc_wd := bc_mem 522 (by rfl) (by decide +kernel)
set_option maxRecDepth 100000 in
theorem mw_523 : (Cond.selects "java/lang/String" ({ cls := "java/lang/String", name := "length", desc := "()I" } : MethodName) ({ cls := "java/lang/String", name := "length", desc := "()I" } : MethodName)) ∈ bc_wd := bc_mem 523 (by rfl) (by decide +kernel)
set_option maxRecDepth 100000 in
theorem mw_524 : (Cond.code ({ cls := "java/lang/String", name := "length", desc := "()I" } : MethodName) prog_21_method_54_code (1 : Nat) (Option.some ClassFile.FieldType.int)) ∈ bc_wd := bc_mem 524 (by rfl) (by decide +kernel)
set_option maxRecDepth 100000 in
theorem mw_531 : (Cond.methodLink "BroadcastCarousel$Parser" (130 : Nat) ({ cls := "java/lang/String", name := "charAt", desc := "(I)C" } : MethodName)) ∈ bc_wd := bc_mem 531 (by rfl) (by decide +kernel)
set_option maxRecDepth 100000 in
theorem mw_532 : (Cond.instanceMethod ({ cls := "java/lang/String", name := "charAt", desc := "(I)C" } : MethodName)) ∈ bc_wd := bc_mem 532 (by rfl) (by decide +kernel)
set_option maxRecDepth 100000 in
theorem mw_533 : (Cond.selects "java/lang/String" ({ cls := "java/lang/String", name := "charAt", desc := "(I)C" } : MethodName) ({ cls := "java/lang/String", name := "charAt", desc := "(I)C" } : MethodName)) ∈ bc_wd := bc_mem 533 (by rfl) (by decide +kernel)
set_option maxRecDepth 100000 in
theorem mw_534 : (Cond.code ({ cls := "java/lang/String", name := "charAt", desc := "(I)C" } : MethodName) prog_21_method_56_code (2 : Nat) (Option.some ClassFile.FieldType.char)) ∈ bc_wd := bc_mem 534 (by rfl) (by decide +kernel)
set_option maxRecDepth 100000 in
theorem mw_1535 : (Cond.methodLink "BroadcastCarouselModel" (133 : Nat) ({ cls := "java/lang/String", name := "length", desc := "()I" } : MethodName)) ∈ bc_wd := bc_mem 1535 (by rfl) (by decide +kernel)
set_option maxRecDepth 100000 in
theorem mw_1536 : (Cond.methodLink "BroadcastCarouselModel" (139 : Nat) ({ cls := "java/lang/String", name := "charAt", desc := "(I)C" } : MethodName)) ∈ bc_wd := bc_mem 1536 (by rfl) (by decide +kernel)
set_option maxRecDepth 100000 in
theorem mw_539 : (Cond.methodLink "java/lang/String" (495 : Nat) ({ cls := "java/lang/StringLatin1", name := "charAt", desc := "([BI)C" } : MethodName)) ∈ bc_wd := bc_mem 539 (by rfl) (by decide +kernel)
set_option maxRecDepth 100000 in
theorem mw_540 : (Cond.static ({ cls := "java/lang/StringLatin1", name := "charAt", desc := "([BI)C" } : MethodName)) ∈ bc_wd := bc_mem 540 (by rfl) (by decide +kernel)
set_option maxRecDepth 100000 in
theorem mw_122 : (Cond.initialized "java/lang/StringLatin1") ∈ bc_wd := bc_mem 122 (by rfl) (by decide +kernel)
set_option maxRecDepth 100000 in
theorem mw_541 : (Cond.code ({ cls := "java/lang/StringLatin1", name := "charAt", desc := "([BI)C" } : MethodName) prog_22_method_2_code (2 : Nat) (Option.some ClassFile.FieldType.char)) ∈ bc_wd := bc_mem 541 (by rfl) (by decide +kernel)
set_option maxRecDepth 100000 in
theorem mw_542 : (Cond.methodLink "java/lang/StringLatin1" (9 : Nat) ({ cls := "java/lang/String", name := "checkIndex", desc := "(II)V" } : MethodName)) ∈ bc_wd := bc_mem 542 (by rfl) (by decide +kernel)
set_option maxRecDepth 100000 in
theorem mw_543 : (Cond.static ({ cls := "java/lang/String", name := "checkIndex", desc := "(II)V" } : MethodName)) ∈ bc_wd := bc_mem 543 (by rfl) (by decide +kernel)
set_option maxRecDepth 100000 in
theorem mw_544 : (Cond.code ({ cls := "java/lang/String", name := "checkIndex", desc := "(II)V" } : MethodName) prog_21_method_155_code (2 : Nat) (Option.none : Option ClassFile.FieldType)) ∈ bc_wd := bc_mem 544 (by rfl) (by decide +kernel)
set_option maxRecDepth 100000 in
theorem mw_547 : (Cond.methodLink "java/lang/String" (1059 : Nat) ({ cls := "jdk/internal/util/Preconditions", name := "checkIndex", desc := "(IILjava/util/function/BiFunction;)I" } : MethodName)) ∈ bc_wd := bc_mem 547 (by rfl) (by decide +kernel)
set_option maxRecDepth 100000 in
theorem mw_548 : (Cond.static ({ cls := "jdk/internal/util/Preconditions", name := "checkIndex", desc := "(IILjava/util/function/BiFunction;)I" } : MethodName)) ∈ bc_wd := bc_mem 548 (by rfl) (by decide +kernel)
set_option maxRecDepth 100000 in
theorem mw_123 : (Cond.initialized "jdk/internal/util/Preconditions") ∈ bc_wd := bc_mem 123 (by rfl) (by decide +kernel)
set_option maxRecDepth 100000 in
theorem mw_549 : (Cond.code ({ cls := "jdk/internal/util/Preconditions", name := "checkIndex", desc := "(IILjava/util/function/BiFunction;)I" } : MethodName) prog_29_method_11_code (3 : Nat) (Option.some ClassFile.FieldType.int)) ∈ bc_wd := bc_mem 549 (by rfl) (by decide +kernel)
set_option maxRecDepth 100000 in
theorem mw_529 : (Cond.fieldLink "java/lang/String" (38 : Nat) "java/lang/String" "COMPACT_STRINGS" "Z") ∈ bc_wd := bc_mem 529 (by rfl) (by decide +kernel)
set_option maxRecDepth 100000 in
theorem mw_1949 : (Cond.fieldLink "java/lang/String" (9 : Nat) "java/lang/String" "value" "[B") ∈ bc_wd := bc_mem 1949 (by rfl) (by decide +kernel)
set_option maxRecDepth 100000 in
theorem mw_1950 : (Cond.fieldLink "java/lang/String" (15 : Nat) "java/lang/String" "coder" "B") ∈ bc_wd := bc_mem 1950 (by rfl) (by decide +kernel)
set_option maxRecDepth 100000 in
theorem mw_545 : (Cond.fieldLink "java/lang/String" (1053 : Nat) "jdk/internal/util/Preconditions" "SIOOBE_FORMATTER" "Ljava/util/function/BiFunction;") ∈ bc_wd := bc_mem 545 (by rfl) (by decide +kernel)
section STR
variable {G : bc_G} {own : String} {cc : ByteArray} {mL : Nat} {rt : Option FieldType} {d N u pc pc' : Nat} {L : List (Option Value)} {st : List Value} {M : bc_M} {post : bc_R → bc_M → Prop}
theorem st_E {p : Program} {s : State} {m : MethodId} {args : Array Value} {meth : Method} {c : Code} (C : bc_C G own cc mL rt p s m args meth c) : vk_S 12 bc_len bc_byt (fun i => G.2.2.2.1 100 i) (fun i => G.2.2.2.1 101 i) (bc_A G) s s.heap := vk_S.kept C.2.2.2.2.2.2.2.2.1.2.2.2.1.1 (fun a ha _ => C.2.2.2.2.2.2.2.2.2.2.2 a ha)
theorem wp_ldcS {i ti : Nat} {tx : String} (hd : bc_d cc pc (.ldc i) 2 pc') (hs : (own, i, tx, ti) ∈ bc_strs) (K : bc_W G own cc mL rt d N u pc' L (vR G 100 ti :: st) M post) : bc_W G own cc mL rt d N u pc L st M post := by
  intro p e s m args below meth c H locs ls C hl hH hS
  obtain ⟨hd, rfl⟩ := hd
  exact va_ldcS C.1 C.2.1 C.2.2.2.2.1 (C.2.2.2.2.2.2.2.2.1.2.2.2.1.2.1 _ hs) hd (K p e s m args below meth c H locs ls C hl hH hS)
theorem wp_compact {i : Nat} (hd : bc_d cc pc (.getstatic i) 3 pc') (hw : Cond.fieldLink own i "java/lang/String" "COMPACT_STRINGS" "Z" ∈ bc_wd) (K : bc_W G own cc mL rt d N u pc' L (vI 1 :: st) M post) : bc_W G own cc mL rt d N u pc L st M post := by
  intro p e s m args below meth c H locs ls C hl hH hS
  obtain ⟨hd, rfl⟩ := hd
  exact va_gets C.1 C.2.1 (va_Z.kept C.2.2.2.2.2.2.2.2.1.2.2.2.1.2.2.1 (fun a ha _ => C.2.2.2.2.2.2.2.2.2.2.2 a ha)) hS C.2.2.2.2.1 (C.2.2.2.2.2.1 _ hw) (fun x h => h) hd (K p e s m args below meth c H locs ls C hl hH hS)
theorem wp_sioobe {i : Nat} (hd : bc_d cc pc (.getstatic i) 3 pc') (hw : Cond.fieldLink own i "jdk/internal/util/Preconditions" "SIOOBE_FORMATTER" "Ljava/util/function/BiFunction;" ∈ bc_wd) (K : ∀ v : Value, (v = .null ∨ ∃ t, v = .ref t) → bc_W G own cc mL rt d N u pc' L (v :: st) M post) : bc_W G own cc mL rt d N u pc L st M post := by
  intro p e s m args below meth c H locs ls C hl hH hS
  obtain ⟨hd, rfl⟩ := hd
  have hz := va_Zq.kept C.2.2.2.2.2.2.2.2.1.2.2.2.1.2.2.2 (fun a ha _ => C.2.2.2.2.2.2.2.2.2.2.2 a ha)
  rcases hz with hz | ⟨t, hz⟩
  · exact va_gets C.1 C.2.1 hz hS C.2.2.2.2.1 (C.2.2.2.2.2.1 _ hw) (fun x h => h) hd (K _ (Or.inl rfl) p e s m args below meth c H locs ls C hl hH hS)
  · exact va_gets C.1 C.2.1 hz hS C.2.2.2.2.1 (C.2.2.2.2.2.1 _ hw) (fun x h => h) hd (K _ (Or.inr ⟨t, rfl⟩) p e s m args below meth c H locs ls C hl hH hS)
theorem wp_coder {i ti : Nat} (hd : bc_d cc pc (.getfield i) 3 pc') (hw : Cond.fieldLink own i "java/lang/String" "coder" "B" ∈ bc_wd) (K : bc_W G own cc mL rt d N u pc' L (vI 0 :: st) M post) (ht : ti < 12) : bc_W G own cc mL rt d N u pc L (vR G 100 ti :: st) M post := by
  intro p e s m args below meth c H locs ls C hl hH hS
  obtain ⟨hd, rfl⟩ := hd
  exact vk_getf C.1 C.2.1 ((st_E C).1 ti ht).2.1 hS C.2.2.2.2.1 (C.2.2.2.2.2.1 _ hw) (fun x h => h) hd (K p e s m args below meth c H locs ls C hl hH hS)
theorem wp_value {i ti : Nat} (hd : bc_d cc pc (.getfield i) 3 pc') (hw : Cond.fieldLink own i "java/lang/String" "value" "[B" ∈ bc_wd) (K : bc_W G own cc mL rt d N u pc' L (vR G 101 ti :: st) M post) (ht : ti < 12) : bc_W G own cc mL rt d N u pc L (vR G 100 ti :: st) M post := by
  intro p e s m args below meth c H locs ls C hl hH hS
  obtain ⟨hd, rfl⟩ := hd
  exact vk_getf C.1 C.2.1 ((st_E C).1 ti ht).2.2.1 hS C.2.2.2.2.1 (C.2.2.2.2.2.1 _ hw) (fun x h => h) hd (K p e s m args below meth c H locs ls C hl hH hS)
/-- how long a text is -/
def st_len (ti : Nat) : Int := ((bc_len.getD ti 0 : Nat) : Int)
/-- its letters -/
def st_ch (ti : Nat) (j : Int) : Int := ((bc_byt.getD ti []).getD j.toNat 0).toInt
theorem st_len_r : ∀ ti : Fin 12, 0 ≤ st_len ti.val ∧ st_len ti.val < 32 := by decide +kernel
theorem st_ch_r_ : ∀ (ti : Fin 12) (j : Fin 32), 0 ≤ st_ch ti.val (j.val : Int) ∧ st_ch ti.val (j.val : Int) < 128 := by decide +kernel
theorem st_ch_r {ti : Nat} {j : Int} (ht : ti < 12) (hj : 0 ≤ j ∧ j < st_len ti) : 0 ≤ st_ch ti j ∧ st_ch ti j < 128 := by
  have h1 := st_len_r ⟨ti, ht⟩
  simp only at h1
  have := st_ch_r_ ⟨ti, ht⟩ ⟨j.toNat, by omega⟩
  simp only at this
  rw [show ((j.toNat : Nat) : Int) = j by omega] at this
  exact this
theorem st_and : ∀ x : Fin 128, bx_and (x.val : Int) 255 = (x.val : Int) := by decide +kernel
theorem st_i2c : ∀ x : Fin 128, ((Int32.ofInt (x.val : Int)).toUInt32 % 65536).toInt32 = Int32.ofInt (x.val : Int) := by decide +kernel
theorem wp_vlen {ti : Nat} (hd : bc_d cc pc .arraylength 1 pc') (K : bc_W G own cc mL rt d N u pc' L (vI (st_len ti) :: st) M post) (ht : ti < 12) : bc_W G own cc mL rt d N u pc L (vR G 101 ti :: st) M post := by
  intro p e s m args below meth c H locs ls C hl hH hS
  obtain ⟨hd, rfl⟩ := hd
  exact va_tlen C.1 C.2.1 ((st_E C).1 ti ht).2.2.2 hS (v := Int32.ofInt (st_len ti)) rfl hd (K p e s m args below meth c H locs ls C hl hH hS)
theorem wp_vbyte {ti : Nat} {j : Int} (hd : bc_d cc pc .baload 1 pc') (K : bc_W G own cc mL rt d N u pc' L (vI (st_ch ti j) :: st) M post) (ht : ti < 12) (hj : 0 ≤ j ∧ j < st_len ti) : bc_W G own cc mL rt d N u pc L (vI j :: vR G 101 ti :: st) M post := by
  intro p e s m args below meth c H locs ls C hl hH hS
  obtain ⟨hd, rfl⟩ := hd
  have h1 := st_len_r ⟨ti, ht⟩
  simp only at h1
  have e1 : (Int32.ofInt j).toNatClampNeg = j.toNat := by
    show (Int32.ofInt j).toInt.toNat = j.toNat
    rw [bc_toInt (by omega)]
  refine va_tb C.1 C.2.1 ((st_E C).1 ti ht).2.2.2 hS (i := Int32.ofInt j) ?_ (v := vI (st_ch ti j)) ?_ hd (K p e s m args below meth c H locs ls C hl hH hS)
  · intro q
    rcases q with q | q
    · rw [Int32.lt_iff_toInt_lt, bc_toInt (by omega)] at q
      have e0 : (0 : Int32).toInt = 0 := by decide
      omega
    · rw [e1] at q
      have hl2 : st_len ti = ((bc_len.getD ti 0 : Nat) : Int) := rfl
      omega
  · rw [e1]
    show Value.int ((bc_byt.getD ti []).getD j.toNat 0) = Value.int (Int32.ofInt (((bc_byt.getD ti []).getD j.toNat 0).toInt))
    rw [Int32.ofInt_toInt]
theorem wp_i2c {a : Int} (hd : bc_d cc pc .i2c 1 pc') (K : bc_W G own cc mL rt d N u pc' L (vI a :: st) M post) (ha : 0 ≤ a ∧ a < 128) : bc_W G own cc mL rt d N u pc L (vI a :: st) M post := by
  intro p e s m args below meth c H locs ls C hl hH hS
  obtain ⟨hd, rfl⟩ := hd
  have := st_i2c ⟨a.toNat, by omega⟩
  simp only at this
  rw [show ((a.toNat : Nat) : Int) = a by omega] at this
  exact lv_i2c C.1 C.2.1 hd this (K p e s m args below meth c H locs ls C hl hH hS)
theorem wp_nreturn {a : Int} {ty : FieldType} (hd : bc_d cc pc .ireturn 1 pc') (hn : narrow ty (.int (Int32.ofInt a)) = .int (Int32.ofInt a)) (K : post (.inr (some (vI a))) M) (hu : u ≤ N := by decide) : bc_W G own cc mL (some ty) d N u pc L [vI a] M post := by
  intro p e s m args below meth c H locs ls C hl hH hS
  obtain ⟨hd, -⟩ := hd
  refine W.widen (k := N) (n := 8 * N) hu (Nat.mul_le_mul_left 8 hu) ?_
  refine vx_ret ?_
  exact W.zret C.1 C.2.1 C.2.2.1 hn (fun t ht hW => ⟨⟨_, M, rfl, K, by rw [ht]; exact hH⟩, hS.F ht⟩) (fun q hq => hS.2.2 q hq) hd C.2.2.2.2.2.2.1
theorem st_nb : narrow .byte (.int (Int32.ofInt 0)) = .int (Int32.ofInt 0) := by decide +kernel
theorem st_nc_ : ∀ x : Fin 128, narrow .char (.int (Int32.ofInt (x.val : Int))) = .int (Int32.ofInt (x.val : Int)) := by decide +kernel
theorem st_nc {a : Int} (ha : 0 ≤ a ∧ a < 128) : narrow .char (.int (Int32.ofInt a)) = .int (Int32.ofInt a) := by
  have := st_nc_ ⟨a.toNat, by omega⟩
  simp only at this
  rw [show ((a.toNat : Nat) : Int) = a by omega] at this
  exact this
/-- a call on a text -/
theorem bc_callT {ti : Nat} {idx d' N' n : Nat} {y : MethodName} {yc : ByteArray} {yL : Nat} {yr : Option FieldType} {As : List Value} (hd : bc_d cc pc (.invokevirtual idx) 3 pc') (w1 : Cond.methodLink own idx y ∈ bc_wd) (w2 : Cond.instanceMethod y ∈ bc_wd) (w3 : Cond.selects "java/lang/String" y y ∈ bc_wd) (w4 : Cond.initialized "java/lang/String" ∈ bc_wd) (w5 : Cond.code y yc yL yr ∈ bc_wd)
    (hy : y.cls = "java/lang/String" ∧ y.cls ≠ "java/lang/invoke/MethodHandle" ∧ y.cls ≠ "java/lang/invoke/VarHandle" ∧ (parseMethodDescriptor y.desc).map (fun d => d.parameters.length) = some n) (ht : ti < 12) (hn : As.length = n) (hyL : yL ≤ 45) (hdd : d' + 1 ≤ d) (hN : u + N' ≤ N) (hst : Nat.ble ((st.map fun v => v.category).sum) 8 = true)
    (h : bc_Call G y yc yL yr d' N' (vR G 100 ti :: As) M (bc_k G own cc mL rt d N (u + N') pc' L st post)) : bc_W G own cc mL rt d N u pc L (As.reverse ++ vR G 100 ti :: st) M post := by
  intro p e s m args below meth c H locs ls C hl hH hS
  obtain ⟨hd, rfl⟩ := hd
  have hts := C.2.2.2.2.2.1
  have hSS := C.2.2.2.2.2.2.2.2.1
  have hG : GoodIn bc_wd (wsV own idx "java/lang/String" y (Cond.code y yc yL yr :: bc_wd)) := by
    unfold wsV
    intro w hw
    rcases List.mem_append.mp hw with hw | hw
    · have : w ∈ bc_wd := by
        simp only [List.mem_cons, List.not_mem_nil, or_false] at hw
        rcases hw with rfl | rfl | rfl | rfl
        · exact w1
        · exact w2
        · exact w3
        · exact w4
      exact ⟨this, bc_isgood this⟩
    · exact bc_goodIn w5 w hw
  refine bc_ran C hl hS hN (vx_runV (As := As) (rest := st) (n := n) (rm := bc_rm d' N') ⟨C.1, C.2.1, C.2.2.2.1, C.2.2.2.2.1, hts⟩ (h C.2.2.2.2.2.2.2.2.2.1) (cwV n hts hG rfl rfl rfl hy ⟨hdd, by show 8 + (yL + 11) + 64 * d' ≤ 64 * d; omega⟩) ⟨bc_blind, vk_recv (st_E C) ht hS, fun U hU hW => ⟨rfl, by rw [hU]; exact hH, hSS.warm hW⟩⟩ rfl hn hl.1 rfl (lv_room (Nat.le_of_ble_eq_true hst)) hd ⟨hN, by show 8 * u + 8 * N' ≤ 8 * N; omega⟩)
end STR
theorem ts_J0_335 {G : bc_G} {cc : ByteArray} {mL : Nat} {rt : Option FieldType} {d N u pc pc' : Nat} {L : List (Option Value)} {st : List Value} {M : bc_M} {post : bc_R → bc_M → Prop} {ti : Nat} {d' : Nat} (hd : bc_d cc pc (.invokevirtual 335) 3 pc') (h : bc_Call G yJ0_coder_7d493 cJ0_coder_7d493 1 (some .byte) d' 0 [vR G 100 ti] M (bc_k G RJ0 cc mL rt d N u pc' L st post)) (ht : ti < 12) (hdd : d' + 1 ≤ d := by decide) (hN : u ≤ N := by decide) (hst : Nat.ble ((st.map fun v => v.category).sum) 8 = true := by rfl) : bc_W G RJ0 cc mL rt d N u pc L (vR G 100 ti :: st) M post := bc_callT (N' := 0) (As := []) (n := 0) hd mw_525 mw_526 mw_527 mw_121 mw_528 (by decide +kernel) ht rfl (by decide) hdd hN hst h
theorem ts_J0_492 {G : bc_G} {cc : ByteArray} {mL : Nat} {rt : Option FieldType} {d N u pc pc' : Nat} {L : List (Option Value)} {st : List Value} {M : bc_M} {post : bc_R → bc_M → Prop} {ti : Nat} {d' : Nat} (hd : bc_d cc pc (.invokevirtual 492) 3 pc') (h : bc_Call G yJ0_isLatin1_aae02 cJ0_isLatin1_aae02 1 (some .boolean) d' 0 [vR G 100 ti] M (bc_k G RJ0 cc mL rt d N u pc' L st post)) (ht : ti < 12) (hdd : d' + 1 ≤ d := by decide) (hN : u ≤ N := by decide) (hst : Nat.ble ((st.map fun v => v.category).sum) 8 = true := by rfl) : bc_W G RJ0 cc mL rt d N u pc L (vR G 100 ti :: st) M post := bc_callT (N' := 0) (As := []) (n := 0) hd mw_535 mw_536 mw_537 mw_121 mw_538 (by decide +kernel) ht rfl (by decide) hdd hN hst h
theorem ts_X2_122 {G : bc_G} {cc : ByteArray} {mL : Nat} {rt : Option FieldType} {d N u pc pc' : Nat} {L : List (Option Value)} {st : List Value} {M : bc_M} {post : bc_R → bc_M → Prop} {ti : Nat} {d' : Nat} (hd : bc_d cc pc (.invokevirtual 122) 3 pc') (h : bc_Call G yJ0_length_8abf5 cJ0_length_8abf5 1 (some .int) d' 0 [vR G 100 ti] M (bc_k G RX2 cc mL rt d N u pc' L st post)) (ht : ti < 12) (hdd : d' + 1 ≤ d := by decide) (hN : u ≤ N := by decide) (hst : Nat.ble ((st.map fun v => v.category).sum) 8 = true := by rfl) : bc_W G RX2 cc mL rt d N u pc L (vR G 100 ti :: st) M post := bc_callT (N' := 0) (As := []) (n := 0) hd mw_521 mw_522 mw_523 mw_121 mw_524 (by decide +kernel) ht rfl (by decide) hdd hN hst h
theorem ts_X2_130 {G : bc_G} {cc : ByteArray} {mL : Nat} {rt : Option FieldType} {d N u pc pc' : Nat} {L : List (Option Value)} {st : List Value} {M : bc_M} {post : bc_R → bc_M → Prop} {ti : Nat} {d' : Nat} {a1 : Value} (hd : bc_d cc pc (.invokevirtual 130) 3 pc') (h : bc_Call G yJ0_charAt_5068e cJ0_charAt_5068e 2 (some .char) d' 0 [vR G 100 ti, a1] M (bc_k G RX2 cc mL rt d N u pc' L st post)) (ht : ti < 12) (hdd : d' + 1 ≤ d := by decide) (hN : u ≤ N := by decide) (hst : Nat.ble ((st.map fun v => v.category).sum) 8 = true := by rfl) : bc_W G RX2 cc mL rt d N u pc L (a1 :: vR G 100 ti :: st) M post := bc_callT (N' := 0) (As := [a1]) (n := 1) hd mw_531 mw_532 mw_533 mw_121 mw_534 (by decide +kernel) ht rfl (by decide) hdd hN hst h
theorem ts_X9_133 {G : bc_G} {cc : ByteArray} {mL : Nat} {rt : Option FieldType} {d N u pc pc' : Nat} {L : List (Option Value)} {st : List Value} {M : bc_M} {post : bc_R → bc_M → Prop} {ti : Nat} {d' : Nat} (hd : bc_d cc pc (.invokevirtual 133) 3 pc') (h : bc_Call G yJ0_length_8abf5 cJ0_length_8abf5 1 (some .int) d' 0 [vR G 100 ti] M (bc_k G RX9 cc mL rt d N u pc' L st post)) (ht : ti < 12) (hdd : d' + 1 ≤ d := by decide) (hN : u ≤ N := by decide) (hst : Nat.ble ((st.map fun v => v.category).sum) 8 = true := by rfl) : bc_W G RX9 cc mL rt d N u pc L (vR G 100 ti :: st) M post := bc_callT (N' := 0) (As := []) (n := 0) hd mw_1535 mw_522 mw_523 mw_121 mw_524 (by decide +kernel) ht rfl (by decide) hdd hN hst h
theorem ts_X9_139 {G : bc_G} {cc : ByteArray} {mL : Nat} {rt : Option FieldType} {d N u pc pc' : Nat} {L : List (Option Value)} {st : List Value} {M : bc_M} {post : bc_R → bc_M → Prop} {ti : Nat} {d' : Nat} {a1 : Value} (hd : bc_d cc pc (.invokevirtual 139) 3 pc') (h : bc_Call G yJ0_charAt_5068e cJ0_charAt_5068e 2 (some .char) d' 0 [vR G 100 ti, a1] M (bc_k G RX9 cc mL rt d N u pc' L st post)) (ht : ti < 12) (hdd : d' + 1 ≤ d := by decide) (hN : u ≤ N := by decide) (hst : Nat.ble ((st.map fun v => v.category).sum) 8 = true := by rfl) : bc_W G RX9 cc mL rt d N u pc L (a1 :: vR G 100 ti :: st) M post := bc_callT (N' := 0) (As := [a1]) (n := 1) hd mw_1536 mw_532 mw_533 mw_121 mw_534 (by decide +kernel) ht rfl (by decide) hdd hN hst h
theorem ts_J0_495 {G : bc_G} {cc : ByteArray} {mL : Nat} {rt : Option FieldType} {d N u pc pc' : Nat} {L : List (Option Value)} {st : List Value} {M : bc_M} {post : bc_R → bc_M → Prop} {d' : Nat} {a1 a2 : Value} (hd : bc_d cc pc (.invokestatic 495) 3 pc') (h : bc_Call G yJ1_charAt_3b067 cJ1_charAt_3b067 2 (some .char) d' 0 [a1, a2] M (bc_k G RJ0 cc mL rt d N u pc' L st post)) (hdd : d' + 1 ≤ d := by decide) (hN : u ≤ N := by decide) (hst : Nat.ble ((st.map fun v => v.category).sum) 8 = true := by rfl) : bc_W G RJ0 cc mL rt d N u pc L (a2 :: a1 :: st) M post := bc_callS (N' := 0) (As := [a1, a2]) (n := 2) hd mw_539 mw_540 mw_122 mw_541 (by decide +kernel) rfl (by decide) hdd hN hst h
theorem ts_J1_9 {G : bc_G} {cc : ByteArray} {mL : Nat} {rt : Option FieldType} {d N u pc pc' : Nat} {L : List (Option Value)} {st : List Value} {M : bc_M} {post : bc_R → bc_M → Prop} {d' : Nat} {a1 a2 : Value} (hd : bc_d cc pc (.invokestatic 9) 3 pc') (h : bc_Call G yJ0_checkIndex_df160 cJ0_checkIndex_df160 2 none d' 0 [a1, a2] M (bc_k G RJ1 cc mL rt d N u pc' L st post)) (hdd : d' + 1 ≤ d := by decide) (hN : u ≤ N := by decide) (hst : Nat.ble ((st.map fun v => v.category).sum) 8 = true := by rfl) : bc_W G RJ1 cc mL rt d N u pc L (a2 :: a1 :: st) M post := bc_callS (N' := 0) (As := [a1, a2]) (n := 2) hd mw_542 mw_543 mw_121 mw_544 (by decide +kernel) rfl (by decide) hdd hN hst h
theorem ts_J0_1059 {G : bc_G} {cc : ByteArray} {mL : Nat} {rt : Option FieldType} {d N u pc pc' : Nat} {L : List (Option Value)} {st : List Value} {M : bc_M} {post : bc_R → bc_M → Prop} {d' : Nat} {a1 a2 a3 : Value} (hd : bc_d cc pc (.invokestatic 1059) 3 pc') (h : bc_Call G yJ3_checkIndex_8e157 cJ3_checkIndex_8e157 3 (some .int) d' 0 [a1, a2, a3] M (bc_k G RJ0 cc mL rt d N u pc' L st post)) (hdd : d' + 1 ≤ d := by decide) (hN : u ≤ N := by decide) (hst : Nat.ble ((st.map fun v => v.category).sum) 8 = true := by rfl) : bc_W G RJ0 cc mL rt d N u pc L (a3 :: a2 :: a1 :: st) M post := bc_callS (N' := 0) (As := [a1, a2, a3]) (n := 3) hd mw_547 mw_548 mw_123 mw_549 (by decide +kernel) rfl (by decide) hdd hN hst h
