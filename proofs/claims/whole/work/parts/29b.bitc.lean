def bx_ushr (a b : Int) : Int := ((Int32.ofInt a).toUInt32 >>> ((Int32.ofInt b).toUInt32 &&& Int32.toUInt32 31)).toInt32.toInt
theorem bs_s_u : ∀ n, n < 32 → (((nI n).toUInt32 &&& Int32.toUInt32 31).toBitVec % 32).toNat = n := by decide +kernel
theorem bs_ushr {n k : Nat} (hn : n < 2147483648) (hk : k < 32) : bx_ushr (n : Int) (k : Int) = ((n / 2 ^ k : Nat) : Int) := by
  unfold bx_ushr
  rw [bs_of (x := (n : Int)) ⟨by omega, by omega⟩, bs_of (x := (k : Int)) ⟨by omega, by omega⟩, Int.toNat_natCast, Int.toNat_natCast, pk_ushrN (by omega) _ k (bs_s_u k hk)]
  have : n / 2 ^ k ≤ n := Nat.div_le_self _ _
  exact bs_toInt (by omega)
section BITC
variable {G : bc_G} {own : String} {cc : ByteArray} {mL : Nat} {rt : Option FieldType} {d N u pc pc' : Nat} {L : List (Option Value)} {st : List Value} {M : bc_M} {post : bc_R → bc_M → Prop}
theorem wp_iushr {a b : Int} (hd : bc_d cc pc .iushr 1 pc') (K : bc_W G own cc mL rt d N u pc' L (vI (bx_ushr a b) :: st) M post) : bc_W G own cc mL rt d N u pc L (vI b :: vI a :: st) M post := by
  intro p e s m args below meth c H locs ls C hl hH hS
  obtain ⟨hd, rfl⟩ := hd
  refine lv_iushr C.1 C.2.1 hd rfl ?_
  have := K p e s m args below meth c H locs ls C hl hH hS
  simp only [vI, bx_ushr, Int32.ofInt_toInt] at this
  exact this
theorem wp_ldcw {i : Nat} {v : Int32} {n : Int} (hd : bc_d cc pc (.ldc_w i) 3 pc') (hw : Cond.constant own i v ∈ bc_wd) (hv : v = Int32.ofInt n) (K : bc_W G own cc mL rt d N u pc' L (vI n :: st) M post) : bc_W G own cc mL rt d N u pc L st M post := by
  intro p e s m args below meth c H locs ls C hl hH hS
  obtain ⟨hd, rfl⟩ := hd
  subst hv
  exact lv_ldcw C.1 C.2.1 C.2.2.2.2.1 (C.2.2.2.2.2.1 _ hw) hd (K p e s m args below meth c H locs ls C hl hH hS)
end BITC
/-- how many of the first n places are in the set -/
def bs_cnt (s : Int) : Nat → Int
  | 0 => 0
  | n + 1 => bs_cnt s n + if bs s n then 1 else 0
theorem bs_cnt_pop (n : Nat) : bs_cnt (n : Int) 16 = ((bk_pop n : Nat) : Int) := by
  have hb : ∀ k : Nat, (if bs (n : Int) (k : Int) then (1 : Int) else 0) = ((n / 2 ^ k % 2 : Nat) : Int) := by
    intro k
    unfold bs
    rw [Int.toNat_natCast, Int.toNat_natCast, Nat.testBit_eq_decide_div_mod_eq]
    have h2 : n / 2 ^ k % 2 = 0 ∨ n / 2 ^ k % 2 = 1 := by omega
    rcases h2 with h2 | h2 <;> simp [h2]
  simp only [bs_cnt, hb, bk_pop]
  simp only [Nat.reducePow, Nat.pow_zero, Nat.pow_one, Nat.div_one, Int.natCast_add]
  omega
theorem bs_cnt_rng (s : Int) : ∀ n : Nat, 0 ≤ bs_cnt s n ∧ bs_cnt s n ≤ n
  | 0 => by simp [bs_cnt]
  | n + 1 => by
    have := bs_cnt_rng s n
    simp only [bs_cnt]
    split <;> omega
theorem ct_bitCountN {G : bc_G} {M : bc_M} {post : bc_R → bc_M → Prop} {n : Nat} (hn : n < 65536) (k : post (.inr (some (vI (bs_cnt (n : Int) 16)))) M) : bc_Call G yJ6_bitCount_0f7a4 cJ6_bitCount_0f7a4 1 (some .int) 1 0 [vI (n : Int)] M post := by
  refine bc_enterF (L := [some (vI (n : Int))]) (by decide +kernel) rfl rfl ?_
  refine wp_iload_n eJ6_bitCount_0f7a4_0 rfl ?_
  refine wp_iload_n eJ6_bitCount_0f7a4_1 rfl ?_
  refine wp_iconst eJ6_bitCount_0f7a4_2 ?_
  refine wp_iushr eJ6_bitCount_0f7a4_3 ?_
  rw [show (1 : Int) = ((1 : Nat) : Int) from rfl, bs_ushr (by omega) (by decide)]
  refine wp_ldcw (n := 1431655765) eJ6_bitCount_0f7a4_4 kc_J6_265 (by decide) ?_
  refine wp_iand eJ6_bitCount_0f7a4_7 ?_
  rw [show (1431655765 : Int) = ((1431655765 : Nat) : Int) from rfl, bs_and (by omega) (by decide)]
  have h1 : n / 2 ^ 1 &&& 1431655765 ≤ n / 2 ^ 1 := Nat.and_le_left
  refine wp_isub eJ6_bitCount_0f7a4_8 ?_
  rw [show ((n : Int) - ((n / 2 ^ 1 &&& 1431655765 : Nat) : Int)) = ((n - (n / 2 ^ 1 &&& 1431655765) : Nat) : Int) by omega]
  generalize ha : n - (n / 2 ^ 1 &&& 1431655765) = a
  have ha1 : a ≤ n := by omega
  refine ist_0 eJ6_bitCount_0f7a4_9 ?_
  refine wp_iload_n eJ6_bitCount_0f7a4_10 rfl ?_
  refine wp_ldcw (n := 858993459) eJ6_bitCount_0f7a4_11 kc_J6_266 (by decide) ?_
  refine wp_iand eJ6_bitCount_0f7a4_14 ?_
  rw [show (858993459 : Int) = ((858993459 : Nat) : Int) from rfl, bs_and (by omega) (by decide)]
  refine wp_iload_n eJ6_bitCount_0f7a4_15 rfl ?_
  refine wp_iconst eJ6_bitCount_0f7a4_16 ?_
  refine wp_iushr eJ6_bitCount_0f7a4_17 ?_
  rw [show (2 : Int) = ((2 : Nat) : Int) from rfl, bs_ushr (by omega) (by decide)]
  refine wp_ldcw (n := 858993459) eJ6_bitCount_0f7a4_18 kc_J6_266 (by decide) ?_
  refine wp_iand eJ6_bitCount_0f7a4_21 ?_
  rw [show (858993459 : Int) = ((858993459 : Nat) : Int) from rfl, bs_and (by omega) (by decide)]
  have h2 : a &&& 858993459 ≤ a := Nat.and_le_left
  have h3 : a / 2 ^ 2 &&& 858993459 ≤ a / 2 ^ 2 := Nat.and_le_left
  refine wp_iadd eJ6_bitCount_0f7a4_22 ?_
  rw [← Int.natCast_add]
  generalize hb : (a &&& 858993459) + (a / 2 ^ 2 &&& 858993459) = b
  have hb1 : b ≤ 2 * n := by omega
  refine ist_0 eJ6_bitCount_0f7a4_23 ?_
  refine wp_iload_n eJ6_bitCount_0f7a4_24 rfl ?_
  refine wp_iload_n eJ6_bitCount_0f7a4_25 rfl ?_
  refine wp_iconst eJ6_bitCount_0f7a4_26 ?_
  refine wp_iushr eJ6_bitCount_0f7a4_27 ?_
  rw [show (4 : Int) = ((4 : Nat) : Int) from rfl, bs_ushr (by omega) (by decide)]
  refine wp_iadd eJ6_bitCount_0f7a4_28 ?_
  refine wp_ldcw (n := 252645135) eJ6_bitCount_0f7a4_29 kc_J6_267 (by decide) ?_
  refine wp_iand eJ6_bitCount_0f7a4_32 ?_
  rw [← Int.natCast_add, show (252645135 : Int) = ((252645135 : Nat) : Int) from rfl, bs_and (by omega) (by decide)]
  have h4 : b + b / 2 ^ 4 &&& 252645135 ≤ b + b / 2 ^ 4 := Nat.and_le_left
  generalize hc : (b + b / 2 ^ 4) &&& 252645135 = c
  have hc1 : c ≤ 4 * n := by omega
  refine ist_0 eJ6_bitCount_0f7a4_33 ?_
  refine wp_iload_n eJ6_bitCount_0f7a4_34 rfl ?_
  refine wp_iload_n eJ6_bitCount_0f7a4_35 rfl ?_
  refine wp_bipush eJ6_bitCount_0f7a4_36 ?_
  refine wp_iushr eJ6_bitCount_0f7a4_38 ?_
  rw [show (8 : Int) = ((8 : Nat) : Int) from rfl, bs_ushr (by omega) (by decide)]
  refine wp_iadd eJ6_bitCount_0f7a4_39 ?_
  rw [← Int.natCast_add]
  generalize hd : c + c / 2 ^ 8 = d
  have hd1 : d ≤ 8 * n := by omega
  refine ist_0 eJ6_bitCount_0f7a4_40 ?_
  refine wp_iload_n eJ6_bitCount_0f7a4_41 rfl ?_
  refine wp_iload_n eJ6_bitCount_0f7a4_42 rfl ?_
  refine wp_bipush eJ6_bitCount_0f7a4_43 ?_
  refine wp_iushr eJ6_bitCount_0f7a4_45 ?_
  rw [show (16 : Int) = ((16 : Nat) : Int) from rfl, bs_ushr (by omega) (by decide)]
  refine wp_iadd eJ6_bitCount_0f7a4_46 ?_
  rw [← Int.natCast_add]
  generalize he : d + d / 2 ^ 16 = e
  have he1 : e ≤ 16 * n := by omega
  refine ist_0 eJ6_bitCount_0f7a4_47 ?_
  refine wp_iload_n eJ6_bitCount_0f7a4_48 rfl ?_
  refine wp_bipush eJ6_bitCount_0f7a4_49 ?_
  refine wp_iand eJ6_bitCount_0f7a4_51 ?_
  rw [show (63 : Int) = ((63 : Nat) : Int) from rfl, bs_and (by omega) (by decide)]
  refine wp_ireturn eJ6_bitCount_0f7a4_52 ?_
  have hf : e &&& 63 = bk_f n := by subst he; subst hd; subst hc; subst hb; subst ha; rfl
  rw [hf, bk_eq hn, ← bs_cnt_pop]
  exact k
theorem ct_bitCount {G : bc_G} {M : bc_M} {post : bc_R → bc_M → Prop} {s : Int} (k : post (.inr (some (vI (bs_cnt s 16)))) M) (hs : 0 ≤ s ∧ s < 65536 := by omega) : bc_Call G yJ6_bitCount_0f7a4 cJ6_bitCount_0f7a4 1 (some .int) 1 0 [vI s] M post := by
  have e : s = ((s.toNat : Nat) : Int) := by omega
  rw [e] at k ⊢
  exact ct_bitCountN (by omega) k
