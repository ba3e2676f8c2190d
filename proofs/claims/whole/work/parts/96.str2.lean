theorem ct_sCoder {G : bc_G} {M : bc_M} {post : bc_R → bc_M → Prop} {ti : Nat} (ht : ti < 12) (k : post (.inr (some (vI 0))) M) : bc_Call G yJ0_coder_7d493 cJ0_coder_7d493 1 (some .byte) 1 0 [vR G 100 ti] M post := by
  refine bc_enter (L := [some (vR G 100 ti)]) (by decide) rfl rfl ?_
  refine wp_compact eJ0_coder_7d493_0 mw_529 ?_
  refine wp_if_eq eJ0_coder_7d493_3 (fun c3 => ?_) (fun c3 => ?_)
  · exact absurd c3 (by decide)
  · refine wp_aload_n eJ0_coder_7d493_6 rfl ?_
    refine wp_coder eJ0_coder_7d493_7 mw_1950 ?_ ht
    refine wp_goto eJ0_coder_7d493_10 ?_
    exact wp_nreturn eJ0_coder_7d493_14 st_nb k
theorem ct_sLatin {G : bc_G} {M : bc_M} {post : bc_R → bc_M → Prop} {ti : Nat} (ht : ti < 12) (k : post (.inr (some (vI 1))) M) : bc_Call G yJ0_isLatin1_aae02 cJ0_isLatin1_aae02 1 (some .boolean) 1 0 [vR G 100 ti] M post := by
  refine bc_enter (L := [some (vR G 100 ti)]) (by decide) rfl rfl ?_
  refine wp_compact eJ0_isLatin1_aae02_0 mw_529 ?_
  refine wp_if_eq eJ0_isLatin1_aae02_3 (fun c3 => ?_) (fun c3 => ?_)
  · exact absurd c3 (by decide)
  · refine wp_aload_n eJ0_isLatin1_aae02_6 rfl ?_
    refine wp_coder eJ0_isLatin1_aae02_7 mw_1950 ?_ ht
    refine wp_if_ne eJ0_isLatin1_aae02_10 (fun c10 => ?_) (fun c10 => ?_)
    · exact absurd rfl c10
    · refine wp_iconst eJ0_isLatin1_aae02_13 ?_
      refine wp_goto eJ0_isLatin1_aae02_14 ?_
      exact wp_zreturn eJ0_isLatin1_aae02_18 (by decide) k
theorem ct_sLen {G : bc_G} {M : bc_M} {post : bc_R → bc_M → Prop} {ti : Nat} (ht : ti < 12) (k : post (.inr (some (vI (st_len ti)))) M) : bc_Call G yJ0_length_8abf5 cJ0_length_8abf5 1 (some .int) 2 0 [vR G 100 ti] M post := by
  refine bc_enter (L := [some (vR G 100 ti)]) (by decide) rfl rfl ?_
  have hl := st_len_r ⟨ti, ht⟩
  simp only at hl
  refine wp_aload_n eJ0_length_8abf5_0 rfl ?_
  refine wp_value eJ0_length_8abf5_1 mw_1949 ?_ ht
  refine wp_vlen eJ0_length_8abf5_4 ?_ ht
  refine wp_aload_n eJ0_length_8abf5_5 rfl ?_
  refine ts_J0_335 eJ0_length_8abf5_6 (ct_sCoder ht ?_) ht
  refine wp_ishr eJ0_length_8abf5_9 ?_
  rw [show bx_shr (st_len ti) 0 = st_len ti by rw [bs_shr (by omega) (by omega)]; simp only [Int.toNat_zero, Nat.pow_zero, Nat.div_one]; omega]
  exact wp_ireturn eJ0_length_8abf5_10 k
theorem ct_pCheck {G : bc_G} {M : bc_M} {post : bc_R → bc_M → Prop} {i n : Int} {v : Value} (hv : v = .null ∨ ∃ t, v = .ref t) (hi : 0 ≤ i ∧ i < n) (hn : n < 2147483648) (k : post (.inr (some (vI i))) M) : bc_Call G yJ3_checkIndex_8e157 cJ3_checkIndex_8e157 3 (some .int) 1 0 [vI i, vI n, v] M post := by
  rcases hv with rfl | ⟨t, rfl⟩
  · refine bc_enter (L := [some (vI i), some (vI n), some (.null)]) (by decide) rfl rfl ?_
    refine wp_iload_n eJ3_checkIndex_8e157_0 rfl ?_
    refine wp_if_lt eJ3_checkIndex_8e157_1 (fun c1 => ?_) (fun c1 => ?_)
    · omega
    · refine wp_iload_n eJ3_checkIndex_8e157_4 rfl ?_
      refine wp_iload_n eJ3_checkIndex_8e157_5 rfl ?_
      refine wp_icmp_lt eJ3_checkIndex_8e157_6 (fun c6 => ?_) (fun c6 => ?_)
      · refine wp_iload_n eJ3_checkIndex_8e157_16 rfl ?_
        exact wp_ireturn eJ3_checkIndex_8e157_17 k
      · omega
  · refine bc_enter (L := [some (vI i), some (vI n), some (.ref t)]) (by decide) rfl rfl ?_
    refine wp_iload_n eJ3_checkIndex_8e157_0 rfl ?_
    refine wp_if_lt eJ3_checkIndex_8e157_1 (fun c1 => ?_) (fun c1 => ?_)
    · omega
    · refine wp_iload_n eJ3_checkIndex_8e157_4 rfl ?_
      refine wp_iload_n eJ3_checkIndex_8e157_5 rfl ?_
      refine wp_icmp_lt eJ3_checkIndex_8e157_6 (fun c6 => ?_) (fun c6 => ?_)
      · refine wp_iload_n eJ3_checkIndex_8e157_16 rfl ?_
        exact wp_ireturn eJ3_checkIndex_8e157_17 k
      · omega
theorem ct_sCheck {G : bc_G} {M : bc_M} {post : bc_R → bc_M → Prop} {i n : Int} (hi : 0 ≤ i ∧ i < n) (hn : n < 2147483648) (k : post (.inr none) M) : bc_Call G yJ0_checkIndex_df160 cJ0_checkIndex_df160 2 none 2 0 [vI i, vI n] M post := by
  refine bc_enter (L := [some (vI i), some (vI n)]) (by decide) rfl rfl ?_
  refine wp_iload_n eJ0_checkIndex_df160_0 rfl ?_
  refine wp_iload_n eJ0_checkIndex_df160_1 rfl ?_
  refine wp_sioobe eJ0_checkIndex_df160_2 mw_545 (fun v hv => ?_)
  refine ts_J0_1059 eJ0_checkIndex_df160_5 (ct_pCheck hv hi hn ?_)
  refine wp_pop eJ0_checkIndex_df160_8 ?_
  exact wp_return eJ0_checkIndex_df160_9 k
theorem ct_lChar {G : bc_G} {M : bc_M} {post : bc_R → bc_M → Prop} {ti : Nat} {j : Int} (ht : ti < 12) (hj : 0 ≤ j ∧ j < st_len ti) (k : post (.inr (some (vI (st_ch ti j)))) M) : bc_Call G yJ1_charAt_3b067 cJ1_charAt_3b067 2 (some .char) 3 0 [vR G 101 ti, vI j] M post := by
  refine bc_enter (L := [some (vR G 101 ti), some (vI j)]) (by decide) rfl rfl ?_
  have hl := st_len_r ⟨ti, ht⟩
  simp only at hl
  have hc := st_ch_r ht hj
  refine wp_iload_n eJ1_charAt_3b067_0 rfl ?_
  refine wp_aload_n eJ1_charAt_3b067_1 rfl ?_
  refine wp_vlen eJ1_charAt_3b067_2 ?_ ht
  refine ts_J1_9 eJ1_charAt_3b067_3 (ct_sCheck hj (by omega) ?_)
  refine wp_aload_n eJ1_charAt_3b067_6 rfl ?_
  refine wp_iload_n eJ1_charAt_3b067_7 rfl ?_
  refine wp_vbyte eJ1_charAt_3b067_8 ?_ ht hj
  refine wp_sipush eJ1_charAt_3b067_9 ?_
  refine wp_iand eJ1_charAt_3b067_12 ?_
  have ha := st_and ⟨(st_ch ti j).toNat, by omega⟩
  simp only at ha
  rw [show (((st_ch ti j).toNat : Nat) : Int) = st_ch ti j by omega] at ha
  rw [ha]
  refine wp_i2c eJ1_charAt_3b067_13 ?_ hc
  exact wp_nreturn eJ1_charAt_3b067_14 (st_nc hc) k
theorem ct_sChar {G : bc_G} {M : bc_M} {post : bc_R → bc_M → Prop} {ti : Nat} {j : Int} (ht : ti < 12) (hj : 0 ≤ j ∧ j < st_len ti) (k : post (.inr (some (vI (st_ch ti j)))) M) : bc_Call G yJ0_charAt_5068e cJ0_charAt_5068e 2 (some .char) 4 0 [vR G 100 ti, vI j] M post := by
  refine bc_enter (L := [some (vR G 100 ti), some (vI j)]) (by decide) rfl rfl ?_
  have hc := st_ch_r ht hj
  refine wp_aload_n eJ0_charAt_5068e_0 rfl ?_
  refine ts_J0_492 eJ0_charAt_5068e_1 (ct_sLatin ht ?_) ht
  refine wp_if_eq eJ0_charAt_5068e_4 (fun c4 => ?_) (fun c4 => ?_)
  · exact absurd c4 (by decide)
  · refine wp_aload_n eJ0_charAt_5068e_7 rfl ?_
    refine wp_value eJ0_charAt_5068e_8 mw_1949 ?_ ht
    refine wp_iload_n eJ0_charAt_5068e_11 rfl ?_
    refine ts_J0_495 eJ0_charAt_5068e_12 (ct_lChar ht hj ?_)
    exact wp_nreturn eJ0_charAt_5068e_15 (st_nc hc) k
