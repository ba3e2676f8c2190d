theorem ct_needPlace {G : bc_G} {M : bc_M} {post : bc_R → bc_M → Prop} {v n : Int} (k1 : v < 0 → post (.inl "java/lang/IllegalArgumentException") M) (k2 : 0 ≤ v → v < n → post (.inr none) M) (k3 : 0 ≤ v → n ≤ v → post (.inl "java/util/NoSuchElementException") M) (h_v : -2147483648 ≤ v ∧ v < 2147483648) (h_n : -2147483648 ≤ n ∧ n < 2147483648) : bc_Call G yX8_needPlace cX8_needPlace 2 none 8 2 [vI v, vI n] M post := by
  refine bc_enter (L := [some (vI v), some (vI n)]) (by decide) rfl rfl ?_
  refine wp_iload_n eX8_needPlace_0 rfl ?_
  refine cx_X8_325 eX8_needPlace_1 (ct_needNotNegative k1 (fun g0 => ?_))
  refine wp_iload_n eX8_needPlace_4 rfl ?_
  refine wp_iload_n eX8_needPlace_5 rfl ?_
  refine wp_icmp_lt eX8_needPlace_6 (fun c6 => ?_) (fun c6 => ?_)
  · refine wp_return eX8_needPlace_20 ?_
    exact k2 (by omega) (by omega)
  · exact bc_throwN (tx := "there are not so many") (ti := 11) th_NSE (by decide +kernel) eX8_needPlace_9 eX8_needPlace_12 eX8_needPlace_13 eX8_needPlace_16 eX8_needPlace_19 (k3 (by omega) (by omega))
theorem ct_itemRank {G : bc_G} {M : bc_M} {post : bc_R → bc_M → Prop} {n v : Int} (h_v : -2147483648 ≤ v ∧ v < 2147483648) (hl : M 1 0 3 = 0 ∨ M 1 0 3 = 1) (hI : M 1 0 3 = 1 → LI M n) (k1 : M 1 0 3 = 0 → post (.inl "java/lang/IllegalStateException") M) (k2 : M 1 0 3 = 1 → v < 0 → post (.inl "java/lang/IllegalArgumentException") M) (k3 : M 1 0 3 = 1 → 0 ≤ v → v < M 6 1 3 → post (.inr (some (vI (rk_all (M 8 1) (M 6 1 3).toNat 0 (M 26 0) v)))) (rkM M 1)) (k4 : M 1 0 3 = 1 → 0 ≤ v → M 6 1 3 ≤ v → post (.inl "java/util/NoSuchElementException") M) : bc_Call G yX8_itemRank cX8_itemRank 2 (some .int) 9 3 [vR G 1 0, vI v] M post := by
  refine bc_enter (L := [some (vR G 1 0), some (vI v)]) (by decide) rfl rfl ?_
  refine wp_aload_n eX8_itemRank_0 rfl ?_
  refine cx_X8_125 eX8_itemRank_1 (ct_needCarousel k1 (fun hc0 => ?_))
  have hL1 : M 1 0 3 = 1 := by omega
  obtain ⟨hsi, hbr, hhn, hhr, hri⟩ := hI hL1
  have hsm := hsi.1
  have hni := hsm.1.2.1
  have hnd := hsm.1.1
  have hls := hsi.2.2.1
  have hpv := BR.pv hsm.1 hbr
  refine wp_iload_n eX8_itemRank_4 rfl ?_
  refine wp_aload_n eX8_itemRank_5 rfl ?_
  refine gf_X8_38 eX8_itemRank_6 ?_
  refine gf_X8_112 eX8_itemRank_9 ?_
  refine gf_X8_122 eX8_itemRank_12 ?_
  refine cx_X8_244 eX8_itemRank_15 (ct_needPlace (fun h => k2 hL1 h) (fun g1 g2 => ?_) (fun h1 h2 => k4 hL1 h1 h2) (by omega) (by omega))
  refine wp_aload_n eX8_itemRank_18 rfl ?_
  refine gf_X8_75 eX8_itemRank_19 ?_
  refine wp_aload_n eX8_itemRank_22 rfl ?_
  refine gf_X8_38 eX8_itemRank_23 ?_
  refine gf_X8_112 eX8_itemRank_26 ?_
  refine c_X8_247 eX8_itemRank_29 (ct_rank (by omega) hsm ?_)
  have erow : rkM M 1 26 0 = rk_all (M 8 1) (M 6 1 3).toNat 0 (M 26 0) := by unfold rkM; rw [row_kne (by decide), row_at]
  refine wp_aload_n eX8_itemRank_32 rfl ?_
  refine gf_X8_75 eX8_itemRank_33 ?_
  refine gf_X8_250 eX8_itemRank_36 ?_
  refine wp_iload_n eX8_itemRank_39 rfl ?_
  refine al_26 eX8_itemRank_40 ?_
  refine wp_ireturn eX8_itemRank_41 ?_
  rw [erow]
  exact k3 hL1 (by omega) (by omega)
theorem ct_diskRank {G : bc_G} {M : bc_M} {post : bc_R → bc_M → Prop} {n v : Int} (h_v : -2147483648 ≤ v ∧ v < 2147483648) (hl : M 1 0 3 = 0 ∨ M 1 0 3 = 1) (hI : M 1 0 3 = 1 → LI M n) (k1 : M 1 0 3 = 0 → post (.inl "java/lang/IllegalStateException") M) (k2 : M 1 0 3 = 1 → v < 0 → post (.inl "java/lang/IllegalArgumentException") M) (k3 : M 1 0 3 = 1 → 0 ≤ v → v < M 6 1 2 → post (.inr (some (vI (rk_all (M 7 1) (M 6 1 2).toNat 0 (M 27 0) v)))) (rkM M 1)) (k4 : M 1 0 3 = 1 → 0 ≤ v → M 6 1 2 ≤ v → post (.inl "java/util/NoSuchElementException") M) : bc_Call G yX8_diskRank cX8_diskRank 2 (some .int) 9 3 [vR G 1 0, vI v] M post := by
  refine bc_enter (L := [some (vR G 1 0), some (vI v)]) (by decide) rfl rfl ?_
  refine wp_aload_n eX8_diskRank_0 rfl ?_
  refine cx_X8_125 eX8_diskRank_1 (ct_needCarousel k1 (fun hc0 => ?_))
  have hL1 : M 1 0 3 = 1 := by omega
  obtain ⟨hsi, hbr, hhn, hhr, hri⟩ := hI hL1
  have hsm := hsi.1
  have hni := hsm.1.2.1
  have hnd := hsm.1.1
  have hls := hsi.2.2.1
  have hpv := BR.pv hsm.1 hbr
  refine wp_iload_n eX8_diskRank_4 rfl ?_
  refine wp_aload_n eX8_diskRank_5 rfl ?_
  refine gf_X8_38 eX8_diskRank_6 ?_
  refine gf_X8_112 eX8_diskRank_9 ?_
  refine gf_X8_177 eX8_diskRank_12 ?_
  refine cx_X8_244 eX8_diskRank_15 (ct_needPlace (fun h => k2 hL1 h) (fun g1 g2 => ?_) (fun h1 h2 => k4 hL1 h1 h2) (by omega) (by omega))
  refine wp_aload_n eX8_diskRank_18 rfl ?_
  refine gf_X8_75 eX8_diskRank_19 ?_
  refine wp_aload_n eX8_diskRank_22 rfl ?_
  refine gf_X8_38 eX8_diskRank_23 ?_
  refine gf_X8_112 eX8_diskRank_26 ?_
  refine c_X8_247 eX8_diskRank_29 (ct_rank (by omega) hsm ?_)
  have erow : rkM M 1 27 0 = rk_all (M 7 1) (M 6 1 2).toNat 0 (M 27 0) := by unfold rkM; rw [row_at]
  refine wp_aload_n eX8_diskRank_32 rfl ?_
  refine gf_X8_75 eX8_diskRank_33 ?_
  refine gf_X8_252 eX8_diskRank_36 ?_
  refine wp_iload_n eX8_diskRank_39 rfl ?_
  refine al_27 eX8_diskRank_40 ?_
  refine wp_ireturn eX8_diskRank_41 ?_
  rw [erow]
  exact k3 hL1 (by omega) (by omega)
