theorem ct_needCarousel {G : bc_G} {M : bc_M} {post : bc_R → bc_M → Prop} (k1 : M 1 0 3 = 0 → post (.inl "java/lang/IllegalStateException") M) (k2 : M 1 0 3 ≠ 0 → post (.inr none) M) (hl : -2147483648 ≤ M 1 0 3 ∧ M 1 0 3 < 2147483648 := by omega) : bc_Call G yX8_needCarousel cX8_needCarousel 1 none 6 1 [vR G 1 0] M post := by
  refine bc_enter (L := [some (vR G 1 0)]) (by decide) rfl rfl ?_
  refine wp_aload_n eX8_needCarousel_0 rfl ?_
  refine gf_X8_20 eX8_needCarousel_1 ?_
  refine wp_if_ne eX8_needCarousel_4 (fun c4 => ?_) (fun c4 => ?_)
  · refine wp_return eX8_needCarousel_18 ?_
    exact k2 c4
  · exact bc_throwW (tx := "no carousel") (ti := 9) th_ISE (by decide +kernel) eX8_needCarousel_7 eX8_needCarousel_10 eX8_needCarousel_11 eX8_needCarousel_14 eX8_needCarousel_17 (k1 (by omega))
theorem ct_needRange {G : bc_G} {M : bc_M} {post : bc_R → bc_M → Prop} {v lo hi : Int} (k1 : v < lo ∨ hi < v → post (.inl "java/lang/IllegalArgumentException") M) (k2 : lo ≤ v → v ≤ hi → post (.inr none) M) (hv : -2147483648 ≤ v ∧ v < 2147483648 := by omega) (hlo : -2147483648 ≤ lo ∧ lo < 2147483648 := by omega) (hhi : -2147483648 ≤ hi ∧ hi < 2147483648 := by omega) : bc_Call G yX8_needRange cX8_needRange 3 none 6 1 [vI v, vI lo, vI hi] M post := by
  refine bc_enter (L := [some (vI v), some (vI lo), some (vI hi)]) (by decide) rfl rfl ?_
  refine wp_iload_n eX8_needRange_0 rfl ?_
  refine wp_iload_n eX8_needRange_1 rfl ?_
  refine wp_icmp_lt eX8_needRange_2 (fun c2 => ?_) (fun c2 => ?_)
  · exact bc_throwW (tx := "an argument is out of its range") (ti := 8) th_IAE (by decide +kernel) eX8_needRange_10 eX8_needRange_13 eX8_needRange_14 eX8_needRange_17 eX8_needRange_20 (k1 (by omega))
  · refine wp_iload_n eX8_needRange_5 rfl ?_
    refine wp_iload_n eX8_needRange_6 rfl ?_
    refine wp_icmp_le eX8_needRange_7 (fun c7 => ?_) (fun c7 => ?_)
    · refine wp_return eX8_needRange_21 ?_
      exact k2 (by omega) c7
    · exact bc_throwW (tx := "an argument is out of its range") (ti := 8) th_IAE (by decide +kernel) eX8_needRange_10 eX8_needRange_13 eX8_needRange_14 eX8_needRange_17 eX8_needRange_20 (k1 (by omega))
theorem ct_needNotNegative {G : bc_G} {M : bc_M} {post : bc_R → bc_M → Prop} {v : Int} (k1 : v < 0 → post (.inl "java/lang/IllegalArgumentException") M) (k2 : 0 ≤ v → post (.inr none) M) (hv : -2147483648 ≤ v ∧ v < 2147483648 := by omega) : bc_Call G yX8_needNotNegative cX8_needNotNegative 1 none 6 1 [vI v] M post := by
  refine bc_enter (L := [some (vI v)]) (by decide) rfl rfl ?_
  refine wp_iload_n eX8_needNotNegative_0 rfl ?_
  refine wp_if_ge eX8_needNotNegative_1 (fun c1 => ?_) (fun c1 => ?_)
  · refine wp_return eX8_needNotNegative_15 ?_
    exact k2 (by omega)
  · exact bc_throwW (tx := "an argument is negative") (ti := 10) th_IAE (by decide +kernel) eX8_needNotNegative_4 eX8_needNotNegative_7 eX8_needNotNegative_8 eX8_needNotNegative_11 eX8_needNotNegative_14 (k1 (by omega))
theorem ct_needItem {G : bc_G} {M : bc_M} {post : bc_R → bc_M → Prop} {v : Int} (k1 : v < 0 ∨ M 6 1 3 ≤ v → post (.inl "java/lang/IllegalArgumentException") M) (k2 : 0 ≤ v → v < M 6 1 3 → post (.inr none) M) (hv : -2147483648 ≤ v ∧ v < 2147483648 := by omega) (hn : 0 ≤ M 6 1 3 ∧ M 6 1 3 ≤ 16 := by omega) : bc_Call G yX8_needItem cX8_needItem 2 none 7 1 [vR G 1 0, vI v] M post := by
  refine bc_enter (L := [some (vR G 1 0), some (vI v)]) (by decide) rfl rfl ?_
  refine wp_iload_n eX8_needItem_0 rfl ?_
  refine wp_iconst eX8_needItem_1 ?_
  refine wp_aload_n eX8_needItem_2 rfl ?_
  refine gf_X8_38 eX8_needItem_3 ?_
  refine gf_X8_112 eX8_needItem_6 ?_
  refine gf_X8_122 eX8_needItem_9 ?_
  refine wp_iconst eX8_needItem_12 ?_
  refine wp_isub eX8_needItem_13 ?_
  refine cx_X8_97 eX8_needItem_14 (ct_needRange (fun h => k1 (by omega)) (fun h1 h2 => ?_))
  refine wp_return eX8_needItem_17 ?_
  exact k2 h1 (by omega)
theorem ct_needDisk {G : bc_G} {M : bc_M} {post : bc_R → bc_M → Prop} {v : Int} (k1 : v < 0 ∨ M 6 1 2 ≤ v → post (.inl "java/lang/IllegalArgumentException") M) (k2 : 0 ≤ v → v < M 6 1 2 → post (.inr none) M) (hv : -2147483648 ≤ v ∧ v < 2147483648 := by omega) (hn : 0 ≤ M 6 1 2 ∧ M 6 1 2 ≤ 16 := by omega) : bc_Call G yX8_needDisk cX8_needDisk 2 none 7 1 [vR G 1 0, vI v] M post := by
  refine bc_enter (L := [some (vR G 1 0), some (vI v)]) (by decide) rfl rfl ?_
  refine wp_iload_n eX8_needDisk_0 rfl ?_
  refine wp_iconst eX8_needDisk_1 ?_
  refine wp_aload_n eX8_needDisk_2 rfl ?_
  refine gf_X8_38 eX8_needDisk_3 ?_
  refine gf_X8_112 eX8_needDisk_6 ?_
  refine gf_X8_177 eX8_needDisk_9 ?_
  refine wp_iconst eX8_needDisk_12 ?_
  refine wp_isub eX8_needDisk_13 ?_
  refine cx_X8_97 eX8_needDisk_14 (ct_needRange (fun h => k1 (by omega)) (fun h1 h2 => ?_))
  refine wp_return eX8_needDisk_17 ?_
  exact k2 h1 (by omega)
theorem ct_needClient {G : bc_G} {M : bc_M} {post : bc_R → bc_M → Prop} {v : Int} (k1 : v < 0 ∨ M 5 1 1 ≤ v → post (.inl "java/lang/IllegalArgumentException") M) (k2 : 0 ≤ v → v < M 5 1 1 → post (.inr none) M) (hv : -2147483648 ≤ v ∧ v < 2147483648 := by omega) (hn : 0 ≤ M 5 1 1 ∧ M 5 1 1 ≤ 16 := by omega) : bc_Call G yX8_needClient cX8_needClient 2 none 7 1 [vR G 1 0, vI v] M post := by
  refine bc_enter (L := [some (vR G 1 0), some (vI v)]) (by decide) rfl rfl ?_
  refine wp_iload_n eX8_needClient_0 rfl ?_
  refine wp_iconst eX8_needClient_1 ?_
  refine wp_aload_n eX8_needClient_2 rfl ?_
  refine gf_X8_38 eX8_needClient_3 ?_
  refine gf_X8_278 eX8_needClient_6 ?_
  refine wp_iconst eX8_needClient_9 ?_
  refine wp_isub eX8_needClient_10 ?_
  refine cx_X8_97 eX8_needClient_11 (ct_needRange (fun h => k1 (by omega)) (fun h1 h2 => ?_))
  refine wp_return eX8_needClient_14 ?_
  exact k2 h1 (by omega)
