theorem ct_mThink {G : bc_G} {M : bc_M} {post : bc_R → bc_M → Prop} {c t : Int} (hl : M 33 0 3 = 0 ∨ M 33 0 3 = 1) (k1 : M 33 0 3 = 0 → post (.inr (some (vI 0))) (bc_up M 33 0 4 1)) (k2 : M 33 0 3 = 1 → (c < 0 ∨ M 33 0 7 ≤ c ∨ t < 1 ∨ 9999 < t) → post (.inr (some (vI 0))) (bc_up M 33 0 4 2)) (k3 : M 33 0 3 = 1 → ¬ (c < 0 ∨ M 33 0 7 ≤ c ∨ t < 1 ∨ 9999 < t) → post (.inr (some (vI (mrM (bc_up M 33 0 4 0) 34 0 (54 + 38 * c + 0) + t)))) (bc_up (mrM (bc_up M 33 0 4 0)) 34 0 (54 + 38 * c + 0) (mrM (bc_up M 33 0 4 0) 34 0 (54 + 38 * c + 0) + t))) (ha : 0 ≤ M 33 0 2 ∧ M 33 0 2 ≤ 10) (hcl : 0 ≤ M 33 0 7 ∧ M 33 0 7 ≤ 4) (h_c : -2147483648 ≤ c ∧ c < 2147483648 := by omega) (h_t : -2147483648 ≤ t ∧ t < 2147483648 := by omega) : bc_Call G yX9_think cX9_think 3 (some .int) 3 0 [vR G 33 0, vI c, vI t] M post := by
  refine bc_enter (L := [some (vR G 33 0), some (vI c), some (vI t)]) (by decide) rfl rfl ?_
  refine wp_aload_n eX9_think_0 rfl ?_
  refine wp_aload_n eX9_think_1 rfl ?_
  refine wp_iload_n eX9_think_2 rfl ?_
  refine c_X9_270 eX9_think_3 (ct_mIsClient ?_)
  refine wp_if_eq eX9_think_6 (fun c6 => ?_) (fun c6 => ?_) (by split <;> decide)
  · have g6 : ¬ (0 ≤ c ∧ c ≤ M 33 0 7 - 1) := by
      intro h9
      rw [if_pos h9] at c6
      exact absurd c6 (by decide)
    refine wp_iconst eX9_think_25 ?_
    refine c_X9_201 eX9_think_26 (ct_mIsWrong ?_)
    rcases hl with hl0 | hl1
    · rw [show mo_thr M 0 = 1 by unfold mo_thr; rw [if_pos hl0]]
      refine wp_if_eq eX9_think_29 (fun c29 => ?_) (fun c29 => ?_)
      · exact absurd c29 (by decide)
      · refine wp_iconst eX9_think_32 ?_
        refine wp_ireturn eX9_think_33 ?_
        exact k1 hl0
    · rw [show mo_thr M 0 = 2 by unfold mo_thr; rw [if_neg (by omega), if_pos rfl]]
      refine wp_if_eq eX9_think_29 (fun c29 => ?_) (fun c29 => ?_)
      · exact absurd c29 (by decide)
      · refine wp_iconst eX9_think_32 ?_
        refine wp_ireturn eX9_think_33 ?_
        exact k2 hl1 (by omega)
  · have g6 : 0 ≤ c ∧ c ≤ M 33 0 7 - 1 := by
      apply Decidable.byContradiction
      intro h9
      rw [if_neg h9] at c6
      exact absurd rfl c6
    refine wp_iload_n eX9_think_9 rfl ?_
    refine wp_i2l eX9_think_10 ?_
    refine wp_lconst1 eX9_think_11 ?_
    refine wp_ldc2 (n := 9999) eX9_think_12 kc_X9_282 (by decide) ?_
    refine c_X9_75 eX9_think_15 (ct_mIsIn ?_)
    refine wp_if_eq eX9_think_18 (fun c18 => ?_) (fun c18 => ?_) (by split <;> decide)
    · have g18 : ¬ (1 ≤ t ∧ t ≤ 9999) := by
        intro h9
        rw [if_pos h9] at c18
        exact absurd c18 (by decide)
      refine wp_iconst eX9_think_25 ?_
      refine c_X9_201 eX9_think_26 (ct_mIsWrong ?_)
      rcases hl with hl0 | hl1
      · rw [show mo_thr M 0 = 1 by unfold mo_thr; rw [if_pos hl0]]
        refine wp_if_eq eX9_think_29 (fun c29 => ?_) (fun c29 => ?_)
        · exact absurd c29 (by decide)
        · refine wp_iconst eX9_think_32 ?_
          refine wp_ireturn eX9_think_33 ?_
          exact k1 hl0
      · rw [show mo_thr M 0 = 2 by unfold mo_thr; rw [if_neg (by omega), if_pos rfl]]
        refine wp_if_eq eX9_think_29 (fun c29 => ?_) (fun c29 => ?_)
        · exact absurd c29 (by decide)
        · refine wp_iconst eX9_think_32 ?_
          refine wp_ireturn eX9_think_33 ?_
          exact k2 hl1 (by omega)
    · have g18 : 1 ≤ t ∧ t ≤ 9999 := by
        apply Decidable.byContradiction
        intro h9
        rw [if_neg h9] at c18
        exact absurd rfl c18
      refine wp_iconst eX9_think_21 ?_
      refine wp_goto eX9_think_22 ?_
      refine c_X9_201 eX9_think_26 (ct_mIsWrong ?_)
      rcases hl with hl0 | hl1
      · rw [show mo_thr M 1 = 1 by unfold mo_thr; rw [if_pos hl0]]
        refine wp_if_eq eX9_think_29 (fun c29 => ?_) (fun c29 => ?_)
        · exact absurd c29 (by decide)
        · refine wp_iconst eX9_think_32 ?_
          refine wp_ireturn eX9_think_33 ?_
          exact k1 hl0
      · rw [show mo_thr M 1 = 0 by unfold mo_thr; rw [if_neg (by omega), if_neg (by decide)]]
        refine wp_if_eq eX9_think_29 (fun c29 => ?_) (fun c29 => ?_)
        · refine wp_aload_n eX9_think_34 rfl ?_
          refine c_X9_276 eX9_think_35 (ct_mRemember (by rw [up_v, if_neg (by decide)]; exact ha) ?_)
          refine wp_aload_n eX9_think_38 rfl ?_
          refine wp_iload_n eX9_think_39 rfl ?_
          refine wp_iconst eX9_think_40 ?_
          refine wp_iload_n eX9_think_41 rfl ?_
          refine c_X9_284 eX9_think_42 (ct_addTo (by omega) (by omega) ?_)
          refine wp_aload_n eX9_think_45 rfl ?_
          refine wp_iload_n eX9_think_46 rfl ?_
          refine wp_iconst eX9_think_47 ?_
          refine c_X9_257 eX9_think_48 (ct_ofClient (by omega) (by omega) ?_)
          refine wp_ireturn eX9_think_51 ?_
          rw [up_v, if_pos rfl]
          exact k3 hl1 (by omega)
        · exact absurd (by decide) c29
