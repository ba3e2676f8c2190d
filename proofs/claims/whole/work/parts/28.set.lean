theorem ct_addDisk {G : bc_G} {M : bc_M} {post : bc_R → bc_M → Prop} {z v : Int} (hz : 0 ≤ z ∧ z < 13) (hd : 0 ≤ M 6 z 2 ∧ M 6 z 2 < 4) (k : post (.inr none) (bc_up (bc_up M 7 z (M 6 z 2) v) 6 z 2 (M 6 z 2 + 1))) : bc_Call G yX5_addDisk cX5_addDisk 2 none 1 0 [vR G 6 z, vI v] M post := by
  refine bc_enter (L := [some (vR G 6 z), some (vI v)]) (by decide) rfl rfl ?_
  refine wp_aload_n eX5_addDisk_0 rfl ?_
  refine gf_X5_18 eX5_addDisk_1 ?_
  refine wp_iconst eX5_addDisk_4 ?_
  refine wp_icmp_ge eX5_addDisk_5 (fun c5 => ?_) (fun c5 => ?_)
  · omega
  · refine wp_aload_n eX5_addDisk_8 rfl ?_
    refine gf_X5_24 eX5_addDisk_9 ?_
    refine wp_aload_n eX5_addDisk_12 rfl ?_
    refine gf_X5_18 eX5_addDisk_13 ?_
    refine wp_iload_n eX5_addDisk_16 rfl ?_
    refine as_7 eX5_addDisk_17 ?_
    refine wp_aload_n eX5_addDisk_18 rfl ?_
    refine wp_dup eX5_addDisk_19 ?_
    refine gf_X5_18 eX5_addDisk_20 ?_
    refine wp_iconst eX5_addDisk_23 ?_
    refine wp_iadd eX5_addDisk_24 ?_
    rw [up_kne (by decide)]
    refine pf_X5_18 eX5_addDisk_25 ?_
    refine wp_return eX5_addDisk_28 ?_
    exact k
theorem ct_addItem {G : bc_G} {M : bc_M} {post : bc_R → bc_M → Prop} {z a b c : Int} (hz : 0 ≤ z ∧ z < 13) (hd : 0 ≤ M 6 z 3 ∧ M 6 z 3 < 16) (k : post (.inr none) (bc_up (bc_up (bc_up (bc_up M 8 z (M 6 z 3) a) 9 z (M 6 z 3) b) 10 z (M 6 z 3) c) 6 z 3 (M 6 z 3 + 1))) : bc_Call G yX5_addItem cX5_addItem 4 none 1 0 [vR G 6 z, vI a, vI b, vI c] M post := by
  refine bc_enter (L := [some (vR G 6 z), some (vI a), some (vI b), some (vI c)]) (by decide) rfl rfl ?_
  refine wp_aload_n eX5_addItem_0 rfl ?_
  refine gf_X5_21 eX5_addItem_1 ?_
  refine wp_bipush eX5_addItem_4 ?_
  refine wp_icmp_ge eX5_addItem_6 (fun c6 => ?_) (fun c6 => ?_)
  · omega
  · refine wp_aload_n eX5_addItem_9 rfl ?_
    refine gf_X5_28 eX5_addItem_10 ?_
    refine wp_aload_n eX5_addItem_13 rfl ?_
    refine gf_X5_21 eX5_addItem_14 ?_
    refine wp_iload_n eX5_addItem_17 rfl ?_
    refine as_8 eX5_addItem_18 ?_
    refine wp_aload_n eX5_addItem_19 rfl ?_
    refine gf_X5_31 eX5_addItem_20 ?_
    refine wp_aload_n eX5_addItem_23 rfl ?_
    refine gf_X5_21 eX5_addItem_24 ?_
    refine wp_iload_n eX5_addItem_27 rfl ?_
    simp only [up_kne (k := 8) (k' := 6) (by decide), up_kne (k := 9) (k' := 6) (by decide), up_kne (k := 10) (k' := 6) (by decide)]
    refine as_9 eX5_addItem_28 ?_
    refine wp_aload_n eX5_addItem_29 rfl ?_
    refine gf_X5_34 eX5_addItem_30 ?_
    refine wp_aload_n eX5_addItem_33 rfl ?_
    refine gf_X5_21 eX5_addItem_34 ?_
    refine wp_iload_n eX5_addItem_37 rfl ?_
    simp only [up_kne (k := 8) (k' := 6) (by decide), up_kne (k := 9) (k' := 6) (by decide), up_kne (k := 10) (k' := 6) (by decide)]
    refine as_10 eX5_addItem_38 ?_
    refine wp_aload_n eX5_addItem_39 rfl ?_
    refine wp_dup eX5_addItem_40 ?_
    refine gf_X5_21 eX5_addItem_41 ?_
    refine wp_iconst eX5_addItem_44 ?_
    refine wp_iadd eX5_addItem_45 ?_
    simp only [up_kne (k := 8) (k' := 6) (by decide), up_kne (k := 9) (k' := 6) (by decide), up_kne (k := 10) (k' := 6) (by decide)]
    refine pf_X5_21 eX5_addItem_46 ?_
    refine wp_return eX5_addItem_49 ?_
    exact k
theorem ct_setCopy {G : bc_G} {M : bc_M} {post : bc_R → bc_M → Prop} {z y : Int} (hz : 0 ≤ z ∧ z < 13) (hy : 0 ≤ y ∧ y < 13) (hyz : y ≠ z) (k : (∀ M' : bc_M, Fr (fun k' j' => (k' = 6 ∨ k' = 7 ∨ k' = 8 ∨ k' = 9 ∨ k' = 10) ∧ j' = z) M M' → M' 7 z = M 7 y → M' 8 z = M 8 y → M' 9 z = M 9 y → M' 10 z = M 10 y → (∀ f, 0 ≤ f → f < 4 → M' 6 z f = M 6 y f) → post (.inr none) M')) : bc_Call G yX5_copyFrom cX5_copyFrom 2 none 1 0 [vR G 6 z, vR G 6 y] M post := by
  refine bc_enter (L := [some (vR G 6 z), some (vR G 6 y)]) (by decide) rfl rfl ?_
  refine wp_aload_n eX5_copyFrom_0 rfl ?_
  refine wp_aload_n eX5_copyFrom_1 rfl ?_
  refine gf_X5_9 eX5_copyFrom_2 ?_
  refine pf_X5_9 eX5_copyFrom_5 ?_
  refine wp_aload_n eX5_copyFrom_8 rfl ?_
  refine wp_aload_n eX5_copyFrom_9 rfl ?_
  refine gf_X5_15 eX5_copyFrom_10 ?_
  refine pf_X5_15 eX5_copyFrom_13 ?_
  refine wp_aload_n eX5_copyFrom_16 rfl ?_
  refine wp_aload_n eX5_copyFrom_17 rfl ?_
  refine gf_X5_18 eX5_copyFrom_18 ?_
  refine pf_X5_18 eX5_copyFrom_21 ?_
  refine wp_aload_n eX5_copyFrom_24 rfl ?_
  refine wp_aload_n eX5_copyFrom_25 rfl ?_
  refine gf_X5_21 eX5_copyFrom_26 ?_
  refine pf_X5_21 eX5_copyFrom_29 ?_
  refine wp_aload_n eX5_copyFrom_32 rfl ?_
  refine gf_X5_24 eX5_copyFrom_33 ?_
  refine wp_iconst eX5_copyFrom_36 ?_
  refine wp_aload_n eX5_copyFrom_37 rfl ?_
  refine gf_X5_24 eX5_copyFrom_38 ?_
  refine wp_iconst eX5_copyFrom_41 ?_
  refine wp_iconst eX5_copyFrom_42 ?_
  refine cp_X5_37_7_7 eX5_copyFrom_43 ?_
  refine wp_aload_n eX5_copyFrom_46 rfl ?_
  refine gf_X5_28 eX5_copyFrom_47 ?_
  refine wp_iconst eX5_copyFrom_50 ?_
  refine wp_aload_n eX5_copyFrom_51 rfl ?_
  refine gf_X5_28 eX5_copyFrom_52 ?_
  refine wp_iconst eX5_copyFrom_55 ?_
  refine wp_bipush eX5_copyFrom_56 ?_
  refine cp_X5_37_8_8 eX5_copyFrom_58 ?_
  refine wp_aload_n eX5_copyFrom_61 rfl ?_
  refine gf_X5_31 eX5_copyFrom_62 ?_
  refine wp_iconst eX5_copyFrom_65 ?_
  refine wp_aload_n eX5_copyFrom_66 rfl ?_
  refine gf_X5_31 eX5_copyFrom_67 ?_
  refine wp_iconst eX5_copyFrom_70 ?_
  refine wp_bipush eX5_copyFrom_71 ?_
  refine cp_X5_37_9_9 eX5_copyFrom_73 ?_
  refine wp_aload_n eX5_copyFrom_76 rfl ?_
  refine gf_X5_34 eX5_copyFrom_77 ?_
  refine wp_iconst eX5_copyFrom_80 ?_
  refine wp_aload_n eX5_copyFrom_81 rfl ?_
  refine gf_X5_34 eX5_copyFrom_82 ?_
  refine wp_iconst eX5_copyFrom_85 ?_
  refine wp_bipush eX5_copyFrom_86 ?_
  refine cp_X5_37_10_10 eX5_copyFrom_88 ?_
  refine wp_return eX5_copyFrom_91 ?_
  refine k _ (fun k' j' hn => ?_) ?_ ?_ ?_ ?_ (fun f a b => ?_)
  · by_cases hjj : j' = z
    · have hk : k' ≠ 6 ∧ k' ≠ 7 ∧ k' ≠ 8 ∧ k' ≠ 9 ∧ k' ≠ 10 := by omega
      rw [row_kne hk.2.2.2.2, row_kne hk.2.2.2.1, row_kne hk.2.2.1, row_kne hk.2.1, up_kne hk.1, up_kne hk.1, up_kne hk.1, up_kne hk.1]
    · rw [row_jne hjj, row_jne hjj, row_jne hjj, row_jne hjj, up_jne hjj, up_jne hjj, up_jne hjj, up_jne hjj]
  · simp only [row_kne (k := 7) (k' := 8) (by decide), row_kne (k := 7) (k' := 9) (by decide), row_kne (k := 8) (k' := 9) (by decide), row_kne (k := 7) (k' := 10) (by decide), row_kne (k := 8) (k' := 10) (by decide), row_kne (k := 9) (k' := 10) (by decide), row_kne (k := 8) (k' := 7) (by decide), row_kne (k := 9) (k' := 7) (by decide), row_kne (k := 10) (k' := 7) (by decide), row_kne (k := 9) (k' := 8) (by decide), row_kne (k := 10) (k' := 8) (by decide), row_kne (k := 10) (k' := 9) (by decide), row_kne (k := 10) (k' := 6) (by decide), row_kne (k := 9) (k' := 6) (by decide), row_kne (k := 8) (k' := 6) (by decide), row_kne (k := 7) (k' := 6) (by decide), up_kne (k := 6) (k' := 7) (by decide), up_kne (k := 6) (k' := 8) (by decide), up_kne (k := 6) (k' := 9) (by decide), up_kne (k := 6) (k' := 10) (by decide), up_jne hyz, row_at]
  · simp only [row_kne (k := 7) (k' := 8) (by decide), row_kne (k := 7) (k' := 9) (by decide), row_kne (k := 8) (k' := 9) (by decide), row_kne (k := 7) (k' := 10) (by decide), row_kne (k := 8) (k' := 10) (by decide), row_kne (k := 9) (k' := 10) (by decide), row_kne (k := 8) (k' := 7) (by decide), row_kne (k := 9) (k' := 7) (by decide), row_kne (k := 10) (k' := 7) (by decide), row_kne (k := 9) (k' := 8) (by decide), row_kne (k := 10) (k' := 8) (by decide), row_kne (k := 10) (k' := 9) (by decide), row_kne (k := 10) (k' := 6) (by decide), row_kne (k := 9) (k' := 6) (by decide), row_kne (k := 8) (k' := 6) (by decide), row_kne (k := 7) (k' := 6) (by decide), up_kne (k := 6) (k' := 7) (by decide), up_kne (k := 6) (k' := 8) (by decide), up_kne (k := 6) (k' := 9) (by decide), up_kne (k := 6) (k' := 10) (by decide), up_jne hyz, row_at]
  · simp only [row_kne (k := 7) (k' := 8) (by decide), row_kne (k := 7) (k' := 9) (by decide), row_kne (k := 8) (k' := 9) (by decide), row_kne (k := 7) (k' := 10) (by decide), row_kne (k := 8) (k' := 10) (by decide), row_kne (k := 9) (k' := 10) (by decide), row_kne (k := 8) (k' := 7) (by decide), row_kne (k := 9) (k' := 7) (by decide), row_kne (k := 10) (k' := 7) (by decide), row_kne (k := 9) (k' := 8) (by decide), row_kne (k := 10) (k' := 8) (by decide), row_kne (k := 10) (k' := 9) (by decide), row_kne (k := 10) (k' := 6) (by decide), row_kne (k := 9) (k' := 6) (by decide), row_kne (k := 8) (k' := 6) (by decide), row_kne (k := 7) (k' := 6) (by decide), up_kne (k := 6) (k' := 7) (by decide), up_kne (k := 6) (k' := 8) (by decide), up_kne (k := 6) (k' := 9) (by decide), up_kne (k := 6) (k' := 10) (by decide), up_jne hyz, row_at]
  · simp only [row_kne (k := 7) (k' := 8) (by decide), row_kne (k := 7) (k' := 9) (by decide), row_kne (k := 8) (k' := 9) (by decide), row_kne (k := 7) (k' := 10) (by decide), row_kne (k := 8) (k' := 10) (by decide), row_kne (k := 9) (k' := 10) (by decide), row_kne (k := 8) (k' := 7) (by decide), row_kne (k := 9) (k' := 7) (by decide), row_kne (k := 10) (k' := 7) (by decide), row_kne (k := 9) (k' := 8) (by decide), row_kne (k := 10) (k' := 8) (by decide), row_kne (k := 10) (k' := 9) (by decide), row_kne (k := 10) (k' := 6) (by decide), row_kne (k := 9) (k' := 6) (by decide), row_kne (k := 8) (k' := 6) (by decide), row_kne (k := 7) (k' := 6) (by decide), up_kne (k := 6) (k' := 7) (by decide), up_kne (k := 6) (k' := 8) (by decide), up_kne (k := 6) (k' := 9) (by decide), up_kne (k := 6) (k' := 10) (by decide), up_jne hyz, row_at]
  · simp only [row_kne (k := 7) (k' := 8) (by decide), row_kne (k := 7) (k' := 9) (by decide), row_kne (k := 8) (k' := 9) (by decide), row_kne (k := 7) (k' := 10) (by decide), row_kne (k := 8) (k' := 10) (by decide), row_kne (k := 9) (k' := 10) (by decide), row_kne (k := 8) (k' := 7) (by decide), row_kne (k := 9) (k' := 7) (by decide), row_kne (k := 10) (k' := 7) (by decide), row_kne (k := 9) (k' := 8) (by decide), row_kne (k := 10) (k' := 8) (by decide), row_kne (k := 10) (k' := 9) (by decide), row_kne (k := 10) (k' := 6) (by decide), row_kne (k := 9) (k' := 6) (by decide), row_kne (k := 8) (k' := 6) (by decide), row_kne (k := 7) (k' := 6) (by decide), up_kne (k := 6) (k' := 7) (by decide), up_kne (k := 6) (k' := 8) (by decide), up_kne (k := 6) (k' := 9) (by decide), up_kne (k := 6) (k' := 10) (by decide), up_jne hyz, row_at]
    rw [up_v]
    split
    · rename_i h; rw [h]
    · rw [up_v]
      split
      · rename_i h; rw [h]
      · rw [up_v]
        split
        · rename_i h; rw [h]
        · rw [up_v, if_pos (by omega)]
          rw [show f = 0 by omega]
