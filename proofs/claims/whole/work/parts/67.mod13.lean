theorem ct_mSetPopularity {G : bc_G} {M : bc_M} {post : bc_R → bc_M → Prop} {i v : Int} (hl : M 33 0 3 = 0 ∨ M 33 0 3 = 1) (k1 : M 33 0 3 = 0 → post (.inr (some (vI 0))) (bc_up M 33 0 4 1)) (k2 : M 33 0 3 = 1 → (i < 0 ∨ M 33 0 6 ≤ i ∨ v < 0 ∨ 99 < v) → post (.inr (some (vI 0))) (bc_up M 33 0 4 2)) (k3 : M 33 0 3 = 1 → ¬ (i < 0 ∨ M 33 0 6 ≤ i ∨ v < 0 ∨ 99 < v) → post (.inr (some (vI (mrM (bc_up M 33 0 4 0) 34 0 (0 + i))))) (bc_up (mrM (bc_up M 33 0 4 0)) 34 0 (0 + i) v)) (ha : 0 ≤ M 33 0 2 ∧ M 33 0 2 ≤ 10) (hit : 0 ≤ M 33 0 6 ∧ M 33 0 6 ≤ 16) (hdi : 0 ≤ M 33 0 5 ∧ M 33 0 5 ≤ 4) (hcl : 0 ≤ M 33 0 7 ∧ M 33 0 7 ≤ 4) (h_i : -2147483648 ≤ i ∧ i < 2147483648 := by omega) (h_v : -2147483648 ≤ v ∧ v < 2147483648 := by omega) : bc_Call G yX9_setPopularity cX9_setPopularity 3 (some .int) 3 0 [vR G 33 0, vI i, vI v] M post := by
  refine bc_enter (L := [some (vR G 33 0), some (vI i), some (vI v)]) (by decide) rfl rfl ?_
  refine wp_aload_n eX9_setPopularity_0 rfl ?_
  refine wp_aload_n eX9_setPopularity_1 rfl ?_
  refine wp_iload_n eX9_setPopularity_2 rfl ?_
  refine c_X9_273 eX9_setPopularity_3 (ct_mIsItem ?_)
  refine wp_if_eq eX9_setPopularity_6 (fun c6 => ?_) (fun c6 => ?_) (by split <;> decide)
  · have g6 : ¬ (0 ≤ i ∧ i ≤ M 33 0 6 - 1) := by
      intro h9
      rw [if_pos h9] at c6
      exact absurd c6 (by decide)
    refine wp_iconst eX9_setPopularity_25 ?_
    refine c_X9_201 eX9_setPopularity_26 (ct_mIsWrong ?_)
    rcases hl with hl0 | hl1
    · rw [show mo_thr M 0 = 1 by unfold mo_thr; rw [if_pos hl0]]
      refine wp_if_eq eX9_setPopularity_29 (fun c29 => ?_) (fun c29 => ?_)
      · exact absurd c29 (by decide)
      · refine wp_iconst eX9_setPopularity_32 ?_
        refine wp_goto eX9_setPopularity_33 ?_
        refine wp_ireturn eX9_setPopularity_44 ?_
        exact k1 hl0
    · rw [show mo_thr M 0 = 2 by unfold mo_thr; rw [if_neg (by omega), if_pos rfl]]
      refine wp_if_eq eX9_setPopularity_29 (fun c29 => ?_) (fun c29 => ?_)
      · exact absurd c29 (by decide)
      · refine wp_iconst eX9_setPopularity_32 ?_
        refine wp_goto eX9_setPopularity_33 ?_
        refine wp_ireturn eX9_setPopularity_44 ?_
        exact k2 hl1 (by omega)
  · have g6 : 0 ≤ i ∧ i ≤ M 33 0 6 - 1 := by
      apply Decidable.byContradiction
      intro h9
      rw [if_neg h9] at c6
      exact absurd rfl c6
    refine wp_iload_n eX9_setPopularity_9 rfl ?_
    refine wp_i2l eX9_setPopularity_10 ?_
    refine wp_lconst0 eX9_setPopularity_11 ?_
    refine wp_ldc2 (n := 99) eX9_setPopularity_12 kc_X9_287 (by decide) ?_
    refine c_X9_75 eX9_setPopularity_15 (ct_mIsIn ?_)
    refine wp_if_eq eX9_setPopularity_18 (fun c18 => ?_) (fun c18 => ?_) (by split <;> decide)
    · have g18 : ¬ (0 ≤ v ∧ v ≤ 99) := by
        intro h9
        rw [if_pos h9] at c18
        exact absurd c18 (by decide)
      refine wp_iconst eX9_setPopularity_25 ?_
      refine c_X9_201 eX9_setPopularity_26 (ct_mIsWrong ?_)
      rcases hl with hl0 | hl1
      · rw [show mo_thr M 0 = 1 by unfold mo_thr; rw [if_pos hl0]]
        refine wp_if_eq eX9_setPopularity_29 (fun c29 => ?_) (fun c29 => ?_)
        · exact absurd c29 (by decide)
        · refine wp_iconst eX9_setPopularity_32 ?_
          refine wp_goto eX9_setPopularity_33 ?_
          refine wp_ireturn eX9_setPopularity_44 ?_
          exact k1 hl0
      · rw [show mo_thr M 0 = 2 by unfold mo_thr; rw [if_neg (by omega), if_pos rfl]]
        refine wp_if_eq eX9_setPopularity_29 (fun c29 => ?_) (fun c29 => ?_)
        · exact absurd c29 (by decide)
        · refine wp_iconst eX9_setPopularity_32 ?_
          refine wp_goto eX9_setPopularity_33 ?_
          refine wp_ireturn eX9_setPopularity_44 ?_
          exact k2 hl1 (by omega)
    · have g18 : 0 ≤ v ∧ v ≤ 99 := by
        apply Decidable.byContradiction
        intro h9
        rw [if_neg h9] at c18
        exact absurd rfl c18
      refine wp_iconst eX9_setPopularity_21 ?_
      refine wp_goto eX9_setPopularity_22 ?_
      refine c_X9_201 eX9_setPopularity_26 (ct_mIsWrong ?_)
      rcases hl with hl0 | hl1
      · rw [show mo_thr M 1 = 1 by unfold mo_thr; rw [if_pos hl0]]
        refine wp_if_eq eX9_setPopularity_29 (fun c29 => ?_) (fun c29 => ?_)
        · exact absurd c29 (by decide)
        · refine wp_iconst eX9_setPopularity_32 ?_
          refine wp_goto eX9_setPopularity_33 ?_
          refine wp_ireturn eX9_setPopularity_44 ?_
          exact k1 hl0
      · rw [show mo_thr M 1 = 0 by unfold mo_thr; rw [if_neg (by omega), if_neg (by decide)]]
        refine wp_if_eq eX9_setPopularity_29 (fun c29 => ?_) (fun c29 => ?_)
        · refine wp_aload_n eX9_setPopularity_36 rfl ?_
          refine wp_iconst eX9_setPopularity_37 ?_
          refine wp_iload_n eX9_setPopularity_38 rfl ?_
          refine wp_iadd eX9_setPopularity_39 ?_
          refine wp_iload_n eX9_setPopularity_40 rfl ?_
          refine c_X9_289 eX9_setPopularity_41 (ct_sets (by rw [up_v, if_neg (by decide)]; exact ha) (by omega) ?_)
          refine wp_ireturn eX9_setPopularity_44 ?_
          exact k3 hl1 (by omega)
        · exact absurd (by decide) c29
theorem ct_mSetBound {G : bc_G} {M : bc_M} {post : bc_R → bc_M → Prop} {i v : Int} (hl : M 33 0 3 = 0 ∨ M 33 0 3 = 1) (k1 : M 33 0 3 = 0 → post (.inr (some (vI 0))) (bc_up M 33 0 4 1)) (k2 : M 33 0 3 = 1 → (i < 0 ∨ M 33 0 6 ≤ i ∨ v < 0 ∨ 999 < v) → post (.inr (some (vI 0))) (bc_up M 33 0 4 2)) (k3 : M 33 0 3 = 1 → ¬ (i < 0 ∨ M 33 0 6 ≤ i ∨ v < 0 ∨ 999 < v) → post (.inr (some (vI (mrM (bc_up M 33 0 4 0) 34 0 (32 + i))))) (bc_up (mrM (bc_up M 33 0 4 0)) 34 0 (32 + i) v)) (ha : 0 ≤ M 33 0 2 ∧ M 33 0 2 ≤ 10) (hit : 0 ≤ M 33 0 6 ∧ M 33 0 6 ≤ 16) (hdi : 0 ≤ M 33 0 5 ∧ M 33 0 5 ≤ 4) (hcl : 0 ≤ M 33 0 7 ∧ M 33 0 7 ≤ 4) (h_i : -2147483648 ≤ i ∧ i < 2147483648 := by omega) (h_v : -2147483648 ≤ v ∧ v < 2147483648 := by omega) : bc_Call G yX9_setBound cX9_setBound 3 (some .int) 3 0 [vR G 33 0, vI i, vI v] M post := by
  refine bc_enter (L := [some (vR G 33 0), some (vI i), some (vI v)]) (by decide) rfl rfl ?_
  refine wp_aload_n eX9_setBound_0 rfl ?_
  refine wp_aload_n eX9_setBound_1 rfl ?_
  refine wp_iload_n eX9_setBound_2 rfl ?_
  refine c_X9_273 eX9_setBound_3 (ct_mIsItem ?_)
  refine wp_if_eq eX9_setBound_6 (fun c6 => ?_) (fun c6 => ?_) (by split <;> decide)
  · have g6 : ¬ (0 ≤ i ∧ i ≤ M 33 0 6 - 1) := by
      intro h9
      rw [if_pos h9] at c6
      exact absurd c6 (by decide)
    refine wp_iconst eX9_setBound_25 ?_
    refine c_X9_201 eX9_setBound_26 (ct_mIsWrong ?_)
    rcases hl with hl0 | hl1
    · rw [show mo_thr M 0 = 1 by unfold mo_thr; rw [if_pos hl0]]
      refine wp_if_eq eX9_setBound_29 (fun c29 => ?_) (fun c29 => ?_)
      · exact absurd c29 (by decide)
      · refine wp_iconst eX9_setBound_32 ?_
        refine wp_goto eX9_setBound_33 ?_
        refine wp_ireturn eX9_setBound_45 ?_
        exact k1 hl0
    · rw [show mo_thr M 0 = 2 by unfold mo_thr; rw [if_neg (by omega), if_pos rfl]]
      refine wp_if_eq eX9_setBound_29 (fun c29 => ?_) (fun c29 => ?_)
      · exact absurd c29 (by decide)
      · refine wp_iconst eX9_setBound_32 ?_
        refine wp_goto eX9_setBound_33 ?_
        refine wp_ireturn eX9_setBound_45 ?_
        exact k2 hl1 (by omega)
  · have g6 : 0 ≤ i ∧ i ≤ M 33 0 6 - 1 := by
      apply Decidable.byContradiction
      intro h9
      rw [if_neg h9] at c6
      exact absurd rfl c6
    refine wp_iload_n eX9_setBound_9 rfl ?_
    refine wp_i2l eX9_setBound_10 ?_
    refine wp_lconst0 eX9_setBound_11 ?_
    refine wp_ldc2 (n := 999) eX9_setBound_12 kc_X9_292 (by decide) ?_
    refine c_X9_75 eX9_setBound_15 (ct_mIsIn ?_)
    refine wp_if_eq eX9_setBound_18 (fun c18 => ?_) (fun c18 => ?_) (by split <;> decide)
    · have g18 : ¬ (0 ≤ v ∧ v ≤ 999) := by
        intro h9
        rw [if_pos h9] at c18
        exact absurd c18 (by decide)
      refine wp_iconst eX9_setBound_25 ?_
      refine c_X9_201 eX9_setBound_26 (ct_mIsWrong ?_)
      rcases hl with hl0 | hl1
      · rw [show mo_thr M 0 = 1 by unfold mo_thr; rw [if_pos hl0]]
        refine wp_if_eq eX9_setBound_29 (fun c29 => ?_) (fun c29 => ?_)
        · exact absurd c29 (by decide)
        · refine wp_iconst eX9_setBound_32 ?_
          refine wp_goto eX9_setBound_33 ?_
          refine wp_ireturn eX9_setBound_45 ?_
          exact k1 hl0
      · rw [show mo_thr M 0 = 2 by unfold mo_thr; rw [if_neg (by omega), if_pos rfl]]
        refine wp_if_eq eX9_setBound_29 (fun c29 => ?_) (fun c29 => ?_)
        · exact absurd c29 (by decide)
        · refine wp_iconst eX9_setBound_32 ?_
          refine wp_goto eX9_setBound_33 ?_
          refine wp_ireturn eX9_setBound_45 ?_
          exact k2 hl1 (by omega)
    · have g18 : 0 ≤ v ∧ v ≤ 999 := by
        apply Decidable.byContradiction
        intro h9
        rw [if_neg h9] at c18
        exact absurd rfl c18
      refine wp_iconst eX9_setBound_21 ?_
      refine wp_goto eX9_setBound_22 ?_
      refine c_X9_201 eX9_setBound_26 (ct_mIsWrong ?_)
      rcases hl with hl0 | hl1
      · rw [show mo_thr M 1 = 1 by unfold mo_thr; rw [if_pos hl0]]
        refine wp_if_eq eX9_setBound_29 (fun c29 => ?_) (fun c29 => ?_)
        · exact absurd c29 (by decide)
        · refine wp_iconst eX9_setBound_32 ?_
          refine wp_goto eX9_setBound_33 ?_
          refine wp_ireturn eX9_setBound_45 ?_
          exact k1 hl0
      · rw [show mo_thr M 1 = 0 by unfold mo_thr; rw [if_neg (by omega), if_neg (by decide)]]
        refine wp_if_eq eX9_setBound_29 (fun c29 => ?_) (fun c29 => ?_)
        · refine wp_aload_n eX9_setBound_36 rfl ?_
          refine wp_bipush eX9_setBound_37 ?_
          refine wp_iload_n eX9_setBound_39 rfl ?_
          refine wp_iadd eX9_setBound_40 ?_
          refine wp_iload_n eX9_setBound_41 rfl ?_
          refine c_X9_289 eX9_setBound_42 (ct_sets (by rw [up_v, if_neg (by decide)]; exact ha) (by omega) ?_)
          refine wp_ireturn eX9_setBound_45 ?_
          exact k3 hl1 (by omega)
        · exact absurd (by decide) c29
theorem ct_mSetFrequency {G : bc_G} {M : bc_M} {post : bc_R → bc_M → Prop} {i v : Int} (hl : M 33 0 3 = 0 ∨ M 33 0 3 = 1) (k1 : M 33 0 3 = 0 → post (.inr (some (vI 0))) (bc_up M 33 0 4 1)) (k2 : M 33 0 3 = 1 → (i < 0 ∨ M 33 0 5 ≤ i ∨ v < 1 ∨ 6 < v) → post (.inr (some (vI 0))) (bc_up M 33 0 4 2)) (k3 : M 33 0 3 = 1 → ¬ (i < 0 ∨ M 33 0 5 ≤ i ∨ v < 1 ∨ 6 < v) → post (.inr (some (vI (mrM (bc_up M 33 0 4 0) 34 0 (48 + i))))) (bc_up (mrM (bc_up M 33 0 4 0)) 34 0 (48 + i) v)) (ha : 0 ≤ M 33 0 2 ∧ M 33 0 2 ≤ 10) (hit : 0 ≤ M 33 0 6 ∧ M 33 0 6 ≤ 16) (hdi : 0 ≤ M 33 0 5 ∧ M 33 0 5 ≤ 4) (hcl : 0 ≤ M 33 0 7 ∧ M 33 0 7 ≤ 4) (h_i : -2147483648 ≤ i ∧ i < 2147483648 := by omega) (h_v : -2147483648 ≤ v ∧ v < 2147483648 := by omega) : bc_Call G yX9_setFrequency cX9_setFrequency 3 (some .int) 3 0 [vR G 33 0, vI i, vI v] M post := by
  refine bc_enter (L := [some (vR G 33 0), some (vI i), some (vI v)]) (by decide) rfl rfl ?_
  refine wp_aload_n eX9_setFrequency_0 rfl ?_
  refine wp_aload_n eX9_setFrequency_1 rfl ?_
  refine wp_iload_n eX9_setFrequency_2 rfl ?_
  refine c_X9_294 eX9_setFrequency_3 (ct_mIsDisk ?_)
  refine wp_if_eq eX9_setFrequency_6 (fun c6 => ?_) (fun c6 => ?_) (by split <;> decide)
  · have g6 : ¬ (0 ≤ i ∧ i ≤ M 33 0 5 - 1) := by
      intro h9
      rw [if_pos h9] at c6
      exact absurd c6 (by decide)
    refine wp_iconst eX9_setFrequency_25 ?_
    refine c_X9_201 eX9_setFrequency_26 (ct_mIsWrong ?_)
    rcases hl with hl0 | hl1
    · rw [show mo_thr M 0 = 1 by unfold mo_thr; rw [if_pos hl0]]
      refine wp_if_eq eX9_setFrequency_29 (fun c29 => ?_) (fun c29 => ?_)
      · exact absurd c29 (by decide)
      · refine wp_iconst eX9_setFrequency_32 ?_
        refine wp_goto eX9_setFrequency_33 ?_
        refine wp_ireturn eX9_setFrequency_45 ?_
        exact k1 hl0
    · rw [show mo_thr M 0 = 2 by unfold mo_thr; rw [if_neg (by omega), if_pos rfl]]
      refine wp_if_eq eX9_setFrequency_29 (fun c29 => ?_) (fun c29 => ?_)
      · exact absurd c29 (by decide)
      · refine wp_iconst eX9_setFrequency_32 ?_
        refine wp_goto eX9_setFrequency_33 ?_
        refine wp_ireturn eX9_setFrequency_45 ?_
        exact k2 hl1 (by omega)
  · have g6 : 0 ≤ i ∧ i ≤ M 33 0 5 - 1 := by
      apply Decidable.byContradiction
      intro h9
      rw [if_neg h9] at c6
      exact absurd rfl c6
    refine wp_iload_n eX9_setFrequency_9 rfl ?_
    refine wp_i2l eX9_setFrequency_10 ?_
    refine wp_lconst1 eX9_setFrequency_11 ?_
    refine wp_ldc2 (n := 6) eX9_setFrequency_12 kc_X9_297 (by decide) ?_
    refine c_X9_75 eX9_setFrequency_15 (ct_mIsIn ?_)
    refine wp_if_eq eX9_setFrequency_18 (fun c18 => ?_) (fun c18 => ?_) (by split <;> decide)
    · have g18 : ¬ (1 ≤ v ∧ v ≤ 6) := by
        intro h9
        rw [if_pos h9] at c18
        exact absurd c18 (by decide)
      refine wp_iconst eX9_setFrequency_25 ?_
      refine c_X9_201 eX9_setFrequency_26 (ct_mIsWrong ?_)
      rcases hl with hl0 | hl1
      · rw [show mo_thr M 0 = 1 by unfold mo_thr; rw [if_pos hl0]]
        refine wp_if_eq eX9_setFrequency_29 (fun c29 => ?_) (fun c29 => ?_)
        · exact absurd c29 (by decide)
        · refine wp_iconst eX9_setFrequency_32 ?_
          refine wp_goto eX9_setFrequency_33 ?_
          refine wp_ireturn eX9_setFrequency_45 ?_
          exact k1 hl0
      · rw [show mo_thr M 0 = 2 by unfold mo_thr; rw [if_neg (by omega), if_pos rfl]]
        refine wp_if_eq eX9_setFrequency_29 (fun c29 => ?_) (fun c29 => ?_)
        · exact absurd c29 (by decide)
        · refine wp_iconst eX9_setFrequency_32 ?_
          refine wp_goto eX9_setFrequency_33 ?_
          refine wp_ireturn eX9_setFrequency_45 ?_
          exact k2 hl1 (by omega)
    · have g18 : 1 ≤ v ∧ v ≤ 6 := by
        apply Decidable.byContradiction
        intro h9
        rw [if_neg h9] at c18
        exact absurd rfl c18
      refine wp_iconst eX9_setFrequency_21 ?_
      refine wp_goto eX9_setFrequency_22 ?_
      refine c_X9_201 eX9_setFrequency_26 (ct_mIsWrong ?_)
      rcases hl with hl0 | hl1
      · rw [show mo_thr M 1 = 1 by unfold mo_thr; rw [if_pos hl0]]
        refine wp_if_eq eX9_setFrequency_29 (fun c29 => ?_) (fun c29 => ?_)
        · exact absurd c29 (by decide)
        · refine wp_iconst eX9_setFrequency_32 ?_
          refine wp_goto eX9_setFrequency_33 ?_
          refine wp_ireturn eX9_setFrequency_45 ?_
          exact k1 hl0
      · rw [show mo_thr M 1 = 0 by unfold mo_thr; rw [if_neg (by omega), if_neg (by decide)]]
        refine wp_if_eq eX9_setFrequency_29 (fun c29 => ?_) (fun c29 => ?_)
        · refine wp_aload_n eX9_setFrequency_36 rfl ?_
          refine wp_bipush eX9_setFrequency_37 ?_
          refine wp_iload_n eX9_setFrequency_39 rfl ?_
          refine wp_iadd eX9_setFrequency_40 ?_
          refine wp_iload_n eX9_setFrequency_41 rfl ?_
          refine c_X9_289 eX9_setFrequency_42 (ct_sets (by rw [up_v, if_neg (by decide)]; exact ha) (by omega) ?_)
          refine wp_ireturn eX9_setFrequency_45 ?_
          exact k3 hl1 (by omega)
        · exact absurd (by decide) c29
theorem ct_mMoveItem {G : bc_G} {M : bc_M} {post : bc_R → bc_M → Prop} {i v : Int} (hl : M 33 0 3 = 0 ∨ M 33 0 3 = 1) (k1 : M 33 0 3 = 0 → post (.inr (some (vI 0))) (bc_up M 33 0 4 1)) (k2 : M 33 0 3 = 1 → (i < 0 ∨ M 33 0 6 ≤ i ∨ v < 0 ∨ M 33 0 5 ≤ v) → post (.inr (some (vI 0))) (bc_up M 33 0 4 2)) (k3 : M 33 0 3 = 1 → ¬ (i < 0 ∨ M 33 0 6 ≤ i ∨ v < 0 ∨ M 33 0 5 ≤ v) → post (.inr (some (vI (mrM (bc_up M 33 0 4 0) 34 0 (16 + i))))) (bc_up (mrM (bc_up M 33 0 4 0)) 34 0 (16 + i) v)) (ha : 0 ≤ M 33 0 2 ∧ M 33 0 2 ≤ 10) (hit : 0 ≤ M 33 0 6 ∧ M 33 0 6 ≤ 16) (hdi : 0 ≤ M 33 0 5 ∧ M 33 0 5 ≤ 4) (hcl : 0 ≤ M 33 0 7 ∧ M 33 0 7 ≤ 4) (h_i : -2147483648 ≤ i ∧ i < 2147483648 := by omega) (h_v : -2147483648 ≤ v ∧ v < 2147483648 := by omega) : bc_Call G yX9_moveItem cX9_moveItem 3 (some .int) 3 0 [vR G 33 0, vI i, vI v] M post := by
  refine bc_enter (L := [some (vR G 33 0), some (vI i), some (vI v)]) (by decide) rfl rfl ?_
  refine wp_aload_n eX9_moveItem_0 rfl ?_
  refine wp_aload_n eX9_moveItem_1 rfl ?_
  refine wp_iload_n eX9_moveItem_2 rfl ?_
  refine c_X9_273 eX9_moveItem_3 (ct_mIsItem ?_)
  refine wp_if_eq eX9_moveItem_6 (fun c6 => ?_) (fun c6 => ?_) (by split <;> decide)
  · have g6 : ¬ (0 ≤ i ∧ i ≤ M 33 0 6 - 1) := by
      intro h9
      rw [if_pos h9] at c6
      exact absurd c6 (by decide)
    refine wp_iconst eX9_moveItem_21 ?_
    refine c_X9_201 eX9_moveItem_22 (ct_mIsWrong ?_)
    rcases hl with hl0 | hl1
    · rw [show mo_thr M 0 = 1 by unfold mo_thr; rw [if_pos hl0]]
      refine wp_if_eq eX9_moveItem_25 (fun c25 => ?_) (fun c25 => ?_)
      · exact absurd c25 (by decide)
      · refine wp_iconst eX9_moveItem_28 ?_
        refine wp_goto eX9_moveItem_29 ?_
        refine wp_ireturn eX9_moveItem_41 ?_
        exact k1 hl0
    · rw [show mo_thr M 0 = 2 by unfold mo_thr; rw [if_neg (by omega), if_pos rfl]]
      refine wp_if_eq eX9_moveItem_25 (fun c25 => ?_) (fun c25 => ?_)
      · exact absurd c25 (by decide)
      · refine wp_iconst eX9_moveItem_28 ?_
        refine wp_goto eX9_moveItem_29 ?_
        refine wp_ireturn eX9_moveItem_41 ?_
        exact k2 hl1 (by omega)
  · have g6 : 0 ≤ i ∧ i ≤ M 33 0 6 - 1 := by
      apply Decidable.byContradiction
      intro h9
      rw [if_neg h9] at c6
      exact absurd rfl c6
    refine wp_aload_n eX9_moveItem_9 rfl ?_
    refine wp_iload_n eX9_moveItem_10 rfl ?_
    refine c_X9_294 eX9_moveItem_11 (ct_mIsDisk ?_)
    refine wp_if_eq eX9_moveItem_14 (fun c14 => ?_) (fun c14 => ?_) (by split <;> decide)
    · have g14 : ¬ (0 ≤ v ∧ v ≤ M 33 0 5 - 1) := by
        intro h9
        rw [if_pos h9] at c14
        exact absurd c14 (by decide)
      refine wp_iconst eX9_moveItem_21 ?_
      refine c_X9_201 eX9_moveItem_22 (ct_mIsWrong ?_)
      rcases hl with hl0 | hl1
      · rw [show mo_thr M 0 = 1 by unfold mo_thr; rw [if_pos hl0]]
        refine wp_if_eq eX9_moveItem_25 (fun c25 => ?_) (fun c25 => ?_)
        · exact absurd c25 (by decide)
        · refine wp_iconst eX9_moveItem_28 ?_
          refine wp_goto eX9_moveItem_29 ?_
          refine wp_ireturn eX9_moveItem_41 ?_
          exact k1 hl0
      · rw [show mo_thr M 0 = 2 by unfold mo_thr; rw [if_neg (by omega), if_pos rfl]]
        refine wp_if_eq eX9_moveItem_25 (fun c25 => ?_) (fun c25 => ?_)
        · exact absurd c25 (by decide)
        · refine wp_iconst eX9_moveItem_28 ?_
          refine wp_goto eX9_moveItem_29 ?_
          refine wp_ireturn eX9_moveItem_41 ?_
          exact k2 hl1 (by omega)
    · have g14 : 0 ≤ v ∧ v ≤ M 33 0 5 - 1 := by
        apply Decidable.byContradiction
        intro h9
        rw [if_neg h9] at c14
        exact absurd rfl c14
      refine wp_iconst eX9_moveItem_17 ?_
      refine wp_goto eX9_moveItem_18 ?_
      refine c_X9_201 eX9_moveItem_22 (ct_mIsWrong ?_)
      rcases hl with hl0 | hl1
      · rw [show mo_thr M 1 = 1 by unfold mo_thr; rw [if_pos hl0]]
        refine wp_if_eq eX9_moveItem_25 (fun c25 => ?_) (fun c25 => ?_)
        · exact absurd c25 (by decide)
        · refine wp_iconst eX9_moveItem_28 ?_
          refine wp_goto eX9_moveItem_29 ?_
          refine wp_ireturn eX9_moveItem_41 ?_
          exact k1 hl0
      · rw [show mo_thr M 1 = 0 by unfold mo_thr; rw [if_neg (by omega), if_neg (by decide)]]
        refine wp_if_eq eX9_moveItem_25 (fun c25 => ?_) (fun c25 => ?_)
        · refine wp_aload_n eX9_moveItem_32 rfl ?_
          refine wp_bipush eX9_moveItem_33 ?_
          refine wp_iload_n eX9_moveItem_35 rfl ?_
          refine wp_iadd eX9_moveItem_36 ?_
          refine wp_iload_n eX9_moveItem_37 rfl ?_
          refine c_X9_289 eX9_moveItem_38 (ct_sets (by rw [up_v, if_neg (by decide)]; exact ha) (by omega) ?_)
          refine wp_ireturn eX9_moveItem_41 ?_
          exact k3 hl1 (by omega)
        · exact absurd (by decide) c25
theorem ct_mRequests {G : bc_G} {M : bc_M} {post : bc_R → bc_M → Prop} {c i : Int} (hl : M 33 0 3 = 0 ∨ M 33 0 3 = 1) (k1 : M 33 0 3 = 0 → post (.inr (some (vI 0))) (bc_up M 33 0 4 1)) (k2 : M 33 0 3 = 1 → (c < 0 ∨ M 33 0 7 ≤ c ∨ i < 0 ∨ M 33 0 6 ≤ i) → post (.inr (some (vI 0))) (bc_up M 33 0 4 2)) (k3 : M 33 0 3 = 1 → ¬ (c < 0 ∨ M 33 0 7 ≤ c ∨ i < 0 ∨ M 33 0 6 ≤ i) → post (.inr (some (vI (M 34 0 (54 + 38 * c + (6 + i)))))) (bc_up M 33 0 4 0)) (ha : 0 ≤ M 33 0 2 ∧ M 33 0 2 ≤ 10) (hit : 0 ≤ M 33 0 6 ∧ M 33 0 6 ≤ 16) (hdi : 0 ≤ M 33 0 5 ∧ M 33 0 5 ≤ 4) (hcl : 0 ≤ M 33 0 7 ∧ M 33 0 7 ≤ 4) (h_c : -2147483648 ≤ c ∧ c < 2147483648 := by omega) (h_i : -2147483648 ≤ i ∧ i < 2147483648 := by omega) : bc_Call G yX9_requests cX9_requests 3 (some .int) 3 0 [vR G 33 0, vI c, vI i] M post := by
  refine bc_enter (L := [some (vR G 33 0), some (vI c), some (vI i)]) (by decide) rfl rfl ?_
  refine wp_aload_n eX9_requests_0 rfl ?_
  refine wp_aload_n eX9_requests_1 rfl ?_
  refine wp_iload_n eX9_requests_2 rfl ?_
  refine c_X9_270 eX9_requests_3 (ct_mIsClient ?_)
  refine wp_if_eq eX9_requests_6 (fun c6 => ?_) (fun c6 => ?_) (by split <;> decide)
  · have g6 : ¬ (0 ≤ c ∧ c ≤ M 33 0 7 - 1) := by
      intro h9
      rw [if_pos h9] at c6
      exact absurd c6 (by decide)
    refine wp_iconst eX9_requests_21 ?_
    refine c_X9_201 eX9_requests_22 (ct_mIsWrong ?_)
    rcases hl with hl0 | hl1
    · rw [show mo_thr M 0 = 1 by unfold mo_thr; rw [if_pos hl0]]
      refine wp_if_eq eX9_requests_25 (fun c25 => ?_) (fun c25 => ?_)
      · exact absurd c25 (by decide)
      · refine wp_iconst eX9_requests_28 ?_
        refine wp_goto eX9_requests_29 ?_
        refine wp_ireturn eX9_requests_41 ?_
        exact k1 hl0
    · rw [show mo_thr M 0 = 2 by unfold mo_thr; rw [if_neg (by omega), if_pos rfl]]
      refine wp_if_eq eX9_requests_25 (fun c25 => ?_) (fun c25 => ?_)
      · exact absurd c25 (by decide)
      · refine wp_iconst eX9_requests_28 ?_
        refine wp_goto eX9_requests_29 ?_
        refine wp_ireturn eX9_requests_41 ?_
        exact k2 hl1 (by omega)
  · have g6 : 0 ≤ c ∧ c ≤ M 33 0 7 - 1 := by
      apply Decidable.byContradiction
      intro h9
      rw [if_neg h9] at c6
      exact absurd rfl c6
    refine wp_aload_n eX9_requests_9 rfl ?_
    refine wp_iload_n eX9_requests_10 rfl ?_
    refine c_X9_273 eX9_requests_11 (ct_mIsItem ?_)
    refine wp_if_eq eX9_requests_14 (fun c14 => ?_) (fun c14 => ?_) (by split <;> decide)
    · have g14 : ¬ (0 ≤ i ∧ i ≤ M 33 0 6 - 1) := by
        intro h9
        rw [if_pos h9] at c14
        exact absurd c14 (by decide)
      refine wp_iconst eX9_requests_21 ?_
      refine c_X9_201 eX9_requests_22 (ct_mIsWrong ?_)
      rcases hl with hl0 | hl1
      · rw [show mo_thr M 0 = 1 by unfold mo_thr; rw [if_pos hl0]]
        refine wp_if_eq eX9_requests_25 (fun c25 => ?_) (fun c25 => ?_)
        · exact absurd c25 (by decide)
        · refine wp_iconst eX9_requests_28 ?_
          refine wp_goto eX9_requests_29 ?_
          refine wp_ireturn eX9_requests_41 ?_
          exact k1 hl0
      · rw [show mo_thr M 0 = 2 by unfold mo_thr; rw [if_neg (by omega), if_pos rfl]]
        refine wp_if_eq eX9_requests_25 (fun c25 => ?_) (fun c25 => ?_)
        · exact absurd c25 (by decide)
        · refine wp_iconst eX9_requests_28 ?_
          refine wp_goto eX9_requests_29 ?_
          refine wp_ireturn eX9_requests_41 ?_
          exact k2 hl1 (by omega)
    · have g14 : 0 ≤ i ∧ i ≤ M 33 0 6 - 1 := by
        apply Decidable.byContradiction
        intro h9
        rw [if_neg h9] at c14
        exact absurd rfl c14
      refine wp_iconst eX9_requests_17 ?_
      refine wp_goto eX9_requests_18 ?_
      refine c_X9_201 eX9_requests_22 (ct_mIsWrong ?_)
      rcases hl with hl0 | hl1
      · rw [show mo_thr M 1 = 1 by unfold mo_thr; rw [if_pos hl0]]
        refine wp_if_eq eX9_requests_25 (fun c25 => ?_) (fun c25 => ?_)
        · exact absurd c25 (by decide)
        · refine wp_iconst eX9_requests_28 ?_
          refine wp_goto eX9_requests_29 ?_
          refine wp_ireturn eX9_requests_41 ?_
          exact k1 hl0
      · rw [show mo_thr M 1 = 0 by unfold mo_thr; rw [if_neg (by omega), if_neg (by decide)]]
        refine wp_if_eq eX9_requests_25 (fun c25 => ?_) (fun c25 => ?_)
        · refine wp_aload_n eX9_requests_32 rfl ?_
          refine wp_iload_n eX9_requests_33 rfl ?_
          refine wp_bipush eX9_requests_34 ?_
          refine wp_iload_n eX9_requests_36 rfl ?_
          refine wp_iadd eX9_requests_37 ?_
          refine c_X9_257 eX9_requests_38 (ct_ofClient (by omega) (by omega) ?_)
          rw [up_kne (by decide)]
          refine wp_ireturn eX9_requests_41 ?_
          exact k3 hl1 (by omega)
        · exact absurd (by decide) c25
