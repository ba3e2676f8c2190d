theorem ct_mFrequency {G : bc_G} {M : bc_M} {post : bc_R → bc_M → Prop} {x : Int} (hl : M 33 0 3 = 0 ∨ M 33 0 3 = 1) (k1 : M 33 0 3 = 0 → post (.inr (some (vI 0))) (bc_up M 33 0 4 1)) (k2 : M 33 0 3 = 1 → (x < 0 ∨ M 33 0 5 ≤ x) → post (.inr (some (vI 0))) (bc_up M 33 0 4 2)) (k3 : M 33 0 3 = 1 → ¬ (x < 0 ∨ M 33 0 5 ≤ x) → post (.inr (some (vI (M 34 0 (48 + x))))) (bc_up M 33 0 4 0)) (ha : 0 ≤ M 33 0 2 ∧ M 33 0 2 ≤ 10) (hit : 0 ≤ M 33 0 6 ∧ M 33 0 6 ≤ 16) (hdi : 0 ≤ M 33 0 5 ∧ M 33 0 5 ≤ 4) (hcl : 0 ≤ M 33 0 7 ∧ M 33 0 7 ≤ 4) (h_x : -2147483648 ≤ x ∧ x < 2147483648 := by omega) : bc_Call G yX9_frequency cX9_frequency 2 (some .int) 3 0 [vR G 33 0, vI x] M post := by
  refine bc_enter (L := [some (vR G 33 0), some (vI x)]) (by decide) rfl rfl ?_
  refine wp_aload_n eX9_frequency_0 rfl ?_
  refine wp_aload_n eX9_frequency_1 rfl ?_
  refine wp_iload_n eX9_frequency_2 rfl ?_
  refine c_X9_294 eX9_frequency_3 (ct_mIsDisk ?_)
  by_cases hb : 0 ≤ x ∧ x ≤ M 33 0 5 - 1
  · rw [if_pos hb]
    refine c_X9_201 eX9_frequency_6 (ct_mIsWrong ?_)
    rcases hl with hl0 | hl1
    · rw [show mo_thr M 1 = 1 by unfold mo_thr; rw [if_pos hl0]]
      refine wp_if_eq eX9_frequency_9 (fun c9 => ?_) (fun c9 => ?_)
      · exact absurd c9 (by decide)
      · refine wp_iconst eX9_frequency_12 ?_
        refine wp_goto eX9_frequency_13 ?_
        refine wp_ireturn eX9_frequency_25 ?_
        exact k1 hl0
    · rw [show mo_thr M 1 = 0 by unfold mo_thr; rw [if_neg (by omega), if_neg (by decide)]]
      refine wp_if_eq eX9_frequency_9 (fun c9 => ?_) (fun c9 => ?_)
      · refine wp_aload_n eX9_frequency_16 rfl ?_
        refine gf_X9_7 eX9_frequency_17 ?_
        refine wp_bipush eX9_frequency_20 ?_
        refine wp_iload_n eX9_frequency_22 rfl ?_
        refine wp_iadd eX9_frequency_23 ?_
        refine al_34 eX9_frequency_24 ?_
        refine wp_ireturn eX9_frequency_25 ?_
        rw [up_kne (by decide)]
        exact k3 hl1 (by omega)
      · exact absurd (by decide) c9
  · rw [if_neg hb]
    refine c_X9_201 eX9_frequency_6 (ct_mIsWrong ?_)
    rcases hl with hl0 | hl1
    · rw [show mo_thr M 0 = 1 by unfold mo_thr; rw [if_pos hl0]]
      refine wp_if_eq eX9_frequency_9 (fun c9 => ?_) (fun c9 => ?_)
      · exact absurd c9 (by decide)
      · refine wp_iconst eX9_frequency_12 ?_
        refine wp_goto eX9_frequency_13 ?_
        refine wp_ireturn eX9_frequency_25 ?_
        exact k1 hl0
    · rw [show mo_thr M 0 = 2 by unfold mo_thr; rw [if_neg (by omega), if_pos rfl]]
      refine wp_if_eq eX9_frequency_9 (fun c9 => ?_) (fun c9 => ?_)
      · exact absurd c9 (by decide)
      · refine wp_iconst eX9_frequency_12 ?_
        refine wp_goto eX9_frequency_13 ?_
        refine wp_ireturn eX9_frequency_25 ?_
        exact k2 hl1 (by omega)
theorem ct_mCache {G : bc_G} {M : bc_M} {post : bc_R → bc_M → Prop} {c : Int} (hl : M 33 0 3 = 0 ∨ M 33 0 3 = 1) (k1 : M 33 0 3 = 0 → post (.inr (some (vI 0))) (bc_up M 33 0 4 1)) (k2 : M 33 0 3 = 1 → (c < 0 ∨ M 33 0 7 ≤ c) → post (.inr (some (vI 0))) (bc_up M 33 0 4 2)) (k3 : M 33 0 3 = 1 → ¬ (c < 0 ∨ M 33 0 7 ≤ c) → post (.inr (some (vI (M 34 0 (54 + 38 * c + 5))))) (bc_up M 33 0 4 0)) (ha : 0 ≤ M 33 0 2 ∧ M 33 0 2 ≤ 10) (hit : 0 ≤ M 33 0 6 ∧ M 33 0 6 ≤ 16) (hdi : 0 ≤ M 33 0 5 ∧ M 33 0 5 ≤ 4) (hcl : 0 ≤ M 33 0 7 ∧ M 33 0 7 ≤ 4) (h_c : -2147483648 ≤ c ∧ c < 2147483648 := by omega) : bc_Call G yX9_cache cX9_cache 2 (some .int) 3 0 [vR G 33 0, vI c] M post := by
  refine bc_enter (L := [some (vR G 33 0), some (vI c)]) (by decide) rfl rfl ?_
  refine wp_aload_n eX9_cache_0 rfl ?_
  refine wp_aload_n eX9_cache_1 rfl ?_
  refine wp_iload_n eX9_cache_2 rfl ?_
  refine c_X9_270 eX9_cache_3 (ct_mIsClient ?_)
  by_cases hb : 0 ≤ c ∧ c ≤ M 33 0 7 - 1
  · rw [if_pos hb]
    refine c_X9_201 eX9_cache_6 (ct_mIsWrong ?_)
    rcases hl with hl0 | hl1
    · rw [show mo_thr M 1 = 1 by unfold mo_thr; rw [if_pos hl0]]
      refine wp_if_eq eX9_cache_9 (fun c9 => ?_) (fun c9 => ?_)
      · exact absurd c9 (by decide)
      · refine wp_iconst eX9_cache_12 ?_
        refine wp_goto eX9_cache_13 ?_
        refine wp_ireturn eX9_cache_22 ?_
        exact k1 hl0
    · rw [show mo_thr M 1 = 0 by unfold mo_thr; rw [if_neg (by omega), if_neg (by decide)]]
      refine wp_if_eq eX9_cache_9 (fun c9 => ?_) (fun c9 => ?_)
      · refine wp_aload_n eX9_cache_16 rfl ?_
        refine wp_iload_n eX9_cache_17 rfl ?_
        refine wp_iconst eX9_cache_18 ?_
        refine c_X9_257 eX9_cache_19 (ct_ofClient (by omega) (by omega) ?_)
        rw [up_kne (by decide)]
        refine wp_ireturn eX9_cache_22 ?_
        exact k3 hl1 (by omega)
      · exact absurd (by decide) c9
  · rw [if_neg hb]
    refine c_X9_201 eX9_cache_6 (ct_mIsWrong ?_)
    rcases hl with hl0 | hl1
    · rw [show mo_thr M 0 = 1 by unfold mo_thr; rw [if_pos hl0]]
      refine wp_if_eq eX9_cache_9 (fun c9 => ?_) (fun c9 => ?_)
      · exact absurd c9 (by decide)
      · refine wp_iconst eX9_cache_12 ?_
        refine wp_goto eX9_cache_13 ?_
        refine wp_ireturn eX9_cache_22 ?_
        exact k1 hl0
    · rw [show mo_thr M 0 = 2 by unfold mo_thr; rw [if_neg (by omega), if_pos rfl]]
      refine wp_if_eq eX9_cache_9 (fun c9 => ?_) (fun c9 => ?_)
      · exact absurd c9 (by decide)
      · refine wp_iconst eX9_cache_12 ?_
        refine wp_goto eX9_cache_13 ?_
        refine wp_ireturn eX9_cache_22 ?_
        exact k2 hl1 (by omega)
