theorem ct_mItemValue {G : bc_G} {M : bc_M} {post : bc_R → bc_M → Prop} {i w : Int} {dk fr pop bnd : Int → Int} {nd ni sg ln : Int} (hI : M 33 0 3 = 1 → MS M dk fr pop bnd nd ni sg ln) (hl : M 33 0 3 = 0 ∨ M 33 0 3 = 1) (k1 : M 33 0 3 = 0 → post (.inr (some (vI 0))) (bc_up M 33 0 4 1)) (k2 : M 33 0 3 = 1 → (i < 0 ∨ M 33 0 6 ≤ i ∨ w < 0 ∨ 2 < w) → post (.inr (some (vI 0))) (bc_up M 33 0 4 2)) (k3 : M 33 0 3 = 1 → ¬ (i < 0 ∨ M 33 0 6 ≤ i ∨ w < 0 ∨ 2 < w) → ∀ M' : bc_M, QM M M' → post (.inr (some (vI (if w = 0 then pop i else if w = 1 then dk i else bnd i)))) M') (ha : 0 ≤ M 33 0 2 ∧ M 33 0 2 ≤ 10) (hit : 0 ≤ M 33 0 6 ∧ M 33 0 6 ≤ 16) (hdi : 0 ≤ M 33 0 5 ∧ M 33 0 5 ≤ 4) (hcl : 0 ≤ M 33 0 7 ∧ M 33 0 7 ≤ 4) (h_i : -2147483648 ≤ i ∧ i < 2147483648 := by omega) (h_w : -2147483648 ≤ w ∧ w < 2147483648 := by omega) : bc_Call G yX9_itemValue cX9_itemValue 3 (some .int) 12 0 [vR G 33 0, vI i, vI w] M post := by
  refine bc_enter (L := [some (vR G 33 0), some (vI i), some (vI w)]) (by decide) rfl rfl ?_
  refine wp_aload_n eX9_itemValue_0 rfl ?_
  refine wp_aload_n eX9_itemValue_1 rfl ?_
  refine wp_iload_n eX9_itemValue_2 rfl ?_
  refine c_X9_273 eX9_itemValue_3 (ct_mIsItem ?_)
  refine wp_if_eq eX9_itemValue_6 (fun c6 => ?_) (fun c6 => ?_) (by split <;> decide)
  · have g6 : ¬ (0 ≤ i ∧ i ≤ M 33 0 6 - 1) := by
      intro h9
      rw [if_pos h9] at c6
      exact absurd c6 (by decide)
    refine wp_iconst eX9_itemValue_25 ?_
    refine c_X9_201 eX9_itemValue_26 (ct_mIsWrong ?_)
    rcases hl with hl0 | hl1
    · rw [show mo_thr M 0 = 1 by unfold mo_thr; rw [if_pos hl0]]
      refine wp_if_eq eX9_itemValue_29 (fun c29 => ?_) (fun c29 => ?_)
      · exact absurd c29 (by decide)
      · refine wp_iconst eX9_itemValue_32 ?_
        refine wp_ireturn eX9_itemValue_33 ?_
        exact k1 hl0
    · rw [show mo_thr M 0 = 2 by unfold mo_thr; rw [if_neg (by omega), if_pos rfl]]
      refine wp_if_eq eX9_itemValue_29 (fun c29 => ?_) (fun c29 => ?_)
      · exact absurd c29 (by decide)
      · refine wp_iconst eX9_itemValue_32 ?_
        refine wp_ireturn eX9_itemValue_33 ?_
        exact k2 hl1 (by omega)
  · have g6 : 0 ≤ i ∧ i ≤ M 33 0 6 - 1 := by
      apply Decidable.byContradiction
      intro h9
      rw [if_neg h9] at c6
      exact absurd rfl c6
    refine wp_iload_n eX9_itemValue_9 rfl ?_
    refine wp_i2l eX9_itemValue_10 ?_
    refine wp_lconst0 eX9_itemValue_11 ?_
    refine wp_ldc2 (n := 2) eX9_itemValue_12 kc_X9_350 (by decide) ?_
    refine c_X9_75 eX9_itemValue_15 (ct_mIsIn ?_)
    refine wp_if_eq eX9_itemValue_18 (fun c18 => ?_) (fun c18 => ?_) (by split <;> decide)
    · have g18 : ¬ (0 ≤ w ∧ w ≤ 2) := by
        intro h9
        rw [if_pos h9] at c18
        exact absurd c18 (by decide)
      refine wp_iconst eX9_itemValue_25 ?_
      refine c_X9_201 eX9_itemValue_26 (ct_mIsWrong ?_)
      rcases hl with hl0 | hl1
      · rw [show mo_thr M 0 = 1 by unfold mo_thr; rw [if_pos hl0]]
        refine wp_if_eq eX9_itemValue_29 (fun c29 => ?_) (fun c29 => ?_)
        · exact absurd c29 (by decide)
        · refine wp_iconst eX9_itemValue_32 ?_
          refine wp_ireturn eX9_itemValue_33 ?_
          exact k1 hl0
      · rw [show mo_thr M 0 = 2 by unfold mo_thr; rw [if_neg (by omega), if_pos rfl]]
        refine wp_if_eq eX9_itemValue_29 (fun c29 => ?_) (fun c29 => ?_)
        · exact absurd c29 (by decide)
        · refine wp_iconst eX9_itemValue_32 ?_
          refine wp_ireturn eX9_itemValue_33 ?_
          exact k2 hl1 (by omega)
    · have g18 : 0 ≤ w ∧ w ≤ 2 := by
        apply Decidable.byContradiction
        intro h9
        rw [if_neg h9] at c18
        exact absurd rfl c18
      refine wp_iconst eX9_itemValue_21 ?_
      refine wp_goto eX9_itemValue_22 ?_
      refine c_X9_201 eX9_itemValue_26 (ct_mIsWrong ?_)
      rcases hl with hl0 | hl1
      · rw [show mo_thr M 1 = 1 by unfold mo_thr; rw [if_pos hl0]]
        refine wp_if_eq eX9_itemValue_29 (fun c29 => ?_) (fun c29 => ?_)
        · exact absurd c29 (by decide)
        · refine wp_iconst eX9_itemValue_32 ?_
          refine wp_ireturn eX9_itemValue_33 ?_
          exact k1 hl0
      · rw [show mo_thr M 1 = 0 by unfold mo_thr; rw [if_neg (by omega), if_neg (by decide)]]
        have hs0 := up_ms (f := 4) (v := 0) (hI hl1) (by decide) (by decide)
        have hs9 := hI hl1
        have hni := hs0.1.2.1
        have hnd := hs0.1.1
        have e6 := hs9.2.1.2
        have e5 := hs9.2.1.1
        refine wp_if_eq eX9_itemValue_29 (fun c29 => ?_) (fun c29 => ?_)
        · refine wp_aload_n eX9_itemValue_34 rfl ?_
          refine gf_X9_7 eX9_itemValue_35 ?_
          refine wp_iload_n eX9_itemValue_38 rfl ?_
          refine wp_if_ne eX9_itemValue_39 (fun c39 => ?_) (fun c39 => ?_)
          · refine wp_iload_n eX9_itemValue_46 rfl ?_
            refine wp_iconst eX9_itemValue_47 ?_
            refine wp_icmp_ne eX9_itemValue_48 (fun c48 => ?_) (fun c48 => ?_)
            · refine wp_bipush eX9_itemValue_56 ?_
              refine wp_iload_n eX9_itemValue_58 rfl ?_
              refine wp_iadd eX9_itemValue_59 ?_
              refine al_34 eX9_itemValue_60 ?_
              refine wp_ireturn eX9_itemValue_61 ?_
              rw [up_kne (by decide), (hs9.2.2.2.2.2.1 i (by omega) (by omega)).2]
              rw [if_neg (by omega), if_neg (by omega)] at k3
              exact k3 hl1 (by omega) _ QM.b0
            · refine wp_bipush eX9_itemValue_51 ?_
              refine wp_goto eX9_itemValue_53 ?_
              refine wp_iload_n eX9_itemValue_58 rfl ?_
              refine wp_iadd eX9_itemValue_59 ?_
              refine al_34 eX9_itemValue_60 ?_
              refine wp_ireturn eX9_itemValue_61 ?_
              rw [up_kne (by decide), hs9.2.2.1 i (by omega) (by omega)]
              rw [if_neg (by omega), if_pos (by omega)] at k3
              exact k3 hl1 (by omega) _ QM.b0
          · refine wp_iconst eX9_itemValue_42 ?_
            refine wp_goto eX9_itemValue_43 ?_
            refine wp_iload_n eX9_itemValue_58 rfl ?_
            refine wp_iadd eX9_itemValue_59 ?_
            refine al_34 eX9_itemValue_60 ?_
            refine wp_ireturn eX9_itemValue_61 ?_
            rw [up_kne (by decide), (hs9.2.2.2.2.2.1 i (by omega) (by omega)).1]
            rw [if_pos (by omega)] at k3
            exact k3 hl1 (by omega) _ QM.b0
        · exact absurd (by decide) c29
theorem ct_mItemsOf {G : bc_G} {M : bc_M} {post : bc_R → bc_M → Prop} {x : Int} {dk fr pop bnd : Int → Int} {nd ni sg ln : Int} (hI : M 33 0 3 = 1 → MS M dk fr pop bnd nd ni sg ln) (hl : M 33 0 3 = 0 ∨ M 33 0 3 = 1) (k1 : M 33 0 3 = 0 → post (.inr (some (vI 0))) (bc_up M 33 0 4 1)) (k2 : M 33 0 3 = 1 → (x < 0 ∨ M 33 0 5 ≤ x) → post (.inr (some (vI 0))) (bc_up M 33 0 4 2)) (k3 : M 33 0 3 = 1 → ¬ (x < 0 ∨ M 33 0 5 ≤ x) → ∀ M' : bc_M, QM M M' → post (.inr (some (vI (sp_of dk ni x)))) M') (ha : 0 ≤ M 33 0 2 ∧ M 33 0 2 ≤ 10) (hit : 0 ≤ M 33 0 6 ∧ M 33 0 6 ≤ 16) (hdi : 0 ≤ M 33 0 5 ∧ M 33 0 5 ≤ 4) (hcl : 0 ≤ M 33 0 7 ∧ M 33 0 7 ≤ 4) (h_x : -2147483648 ≤ x ∧ x < 2147483648 := by omega) : bc_Call G yX9_itemsOf cX9_itemsOf 2 (some .int) 12 0 [vR G 33 0, vI x] M post := by
  refine bc_enter (L := [some (vR G 33 0), some (vI x)]) (by decide) rfl rfl ?_
  refine wp_aload_n eX9_itemsOf_0 rfl ?_
  refine wp_aload_n eX9_itemsOf_1 rfl ?_
  refine wp_iload_n eX9_itemsOf_2 rfl ?_
  refine c_X9_294 eX9_itemsOf_3 (ct_mIsDisk ?_)
  by_cases hb9 : 0 ≤ x ∧ x ≤ M 33 0 5 - 1
  · rw [if_pos hb9]
    refine c_X9_201 eX9_itemsOf_6 (ct_mIsWrong ?_)
    rcases hl with hl0 | hl1
    · rw [show mo_thr M 1 = 1 by unfold mo_thr; rw [if_pos hl0]]
      refine wp_if_eq eX9_itemsOf_9 (fun c9 => ?_) (fun c9 => ?_)
      · exact absurd c9 (by decide)
      · refine wp_iconst eX9_itemsOf_12 ?_
        refine wp_goto eX9_itemsOf_13 ?_
        refine wp_ireturn eX9_itemsOf_21 ?_
        exact k1 hl0
    · rw [show mo_thr M 1 = 0 by unfold mo_thr; rw [if_neg (by omega), if_neg (by decide)]]
      have hs0 := up_ms (f := 4) (v := 0) (hI hl1) (by decide) (by decide)
      have hs9 := hI hl1
      have hni := hs0.1.2.1
      have hnd := hs0.1.1
      have e6 := hs9.2.1.2
      have e5 := hs9.2.1.1
      refine wp_if_eq eX9_itemsOf_9 (fun c9 => ?_) (fun c9 => ?_)
      · refine wp_aload_n eX9_itemsOf_16 rfl ?_
        refine wp_iload_n eX9_itemsOf_17 rfl ?_
        refine c_X9_208 eX9_itemsOf_18 (ct_itemsOn (ni := ni) (dk := dk) (by omega) hs0.2.1.2 hs0.2.2.1 (fun q a b => by have := hs0.1.2.2.2.2.2 q a b; omega) (by omega) ?_)
        refine wp_ireturn eX9_itemsOf_21 ?_
        exact k3 hl1 (by omega) _ QM.b0
      · exact absurd (by decide) c9
  · rw [if_neg hb9]
    refine c_X9_201 eX9_itemsOf_6 (ct_mIsWrong ?_)
    rcases hl with hl0 | hl1
    · rw [show mo_thr M 0 = 1 by unfold mo_thr; rw [if_pos hl0]]
      refine wp_if_eq eX9_itemsOf_9 (fun c9 => ?_) (fun c9 => ?_)
      · exact absurd c9 (by decide)
      · refine wp_iconst eX9_itemsOf_12 ?_
        refine wp_goto eX9_itemsOf_13 ?_
        refine wp_ireturn eX9_itemsOf_21 ?_
        exact k1 hl0
    · rw [show mo_thr M 0 = 2 by unfold mo_thr; rw [if_neg (by omega), if_pos rfl]]
      refine wp_if_eq eX9_itemsOf_9 (fun c9 => ?_) (fun c9 => ?_)
      · exact absurd c9 (by decide)
      · refine wp_iconst eX9_itemsOf_12 ?_
        refine wp_goto eX9_itemsOf_13 ?_
        refine wp_ireturn eX9_itemsOf_21 ?_
        exact k2 hl1 (by omega)
theorem ct_mCycle {G : bc_G} {M : bc_M} {post : bc_R → bc_M → Prop} {dk fr pop bnd : Int → Int} {nd ni sg ln : Int} (hI : M 33 0 3 = 1 → MS M dk fr pop bnd nd ni sg ln) (hl : M 33 0 3 = 0 ∨ M 33 0 3 = 1) (k1 : M 33 0 3 = 0 → post (.inr (some (vI 0))) (bc_up M 33 0 4 1)) (k3 : M 33 0 3 = 1 → ∀ M' : bc_M, QM M M' → post (.inr (some (vI (sp_S dk fr nd ni + sg * ln)))) M') (ha : 0 ≤ M 33 0 2 ∧ M 33 0 2 ≤ 10) (hit : 0 ≤ M 33 0 6 ∧ M 33 0 6 ≤ 16) (hdi : 0 ≤ M 33 0 5 ∧ M 33 0 5 ≤ 4) (hcl : 0 ≤ M 33 0 7 ∧ M 33 0 7 ≤ 4)  : bc_Call G yX9_cycle cX9_cycle 1 (some .int) 12 0 [vR G 33 0] M post := by
  refine bc_enter (L := [some (vR G 33 0)]) (by decide) rfl rfl ?_
  refine wp_aload_n eX9_cycle_0 rfl ?_
  refine wp_iconst eX9_cycle_1 ?_
  refine c_X9_201 eX9_cycle_2 (ct_mIsWrong ?_)
  rcases hl with hl0 | hl1
  · rw [show mo_thr M 1 = 1 by unfold mo_thr; rw [if_pos hl0]]
    refine wp_if_eq eX9_cycle_5 (fun c5 => ?_) (fun c5 => ?_)
    · exact absurd c5 (by decide)
    · refine wp_iconst eX9_cycle_8 ?_
      refine wp_ireturn eX9_cycle_9 ?_
      exact k1 hl0
  · rw [show mo_thr M 1 = 0 by unfold mo_thr; rw [if_neg (by omega), if_neg (by decide)]]
    have hs0 := up_ms (f := 4) (v := 0) (hI hl1) (by decide) (by decide)
    have hs9 := hI hl1
    have hni := hs0.1.2.1
    have hnd := hs0.1.1
    have e6 := hs9.2.1.2
    have e5 := hs9.2.1.1
    refine wp_if_eq eX9_cycle_5 (fun c5 => ?_) (fun c5 => ?_)
    · refine wp_aload_n eX9_cycle_10 rfl ?_
      refine c_X9_242 eX9_cycle_11 (ct_layP hs0 (fun M1 hLY hML => ?_))
      have hq1 := QM.b0.ly hLY
      have hlen := hML.len hs0.1
      have hs1 := hLY.ms hs0
      refine wp_aload_n eX9_cycle_14 rfl ?_
      refine gf_X9_231 eX9_cycle_15 ?_
      refine wp_ireturn eX9_cycle_18 ?_
      rw [hML.1.2]
      exact k3 hl1 _ hq1
    · exact absurd (by decide) c5
theorem ct_mSlotAt {G : bc_G} {M : bc_M} {post : bc_R → bc_M → Prop} {t : Int} {dk fr pop bnd : Int → Int} {nd ni sg ln : Int} (hI : M 33 0 3 = 1 → MS M dk fr pop bnd nd ni sg ln) (hl : M 33 0 3 = 0 ∨ M 33 0 3 = 1) (k1 : M 33 0 3 = 0 → post (.inr (some (vI 0))) (bc_up M 33 0 4 1)) (k2 : M 33 0 3 = 1 → (t < 0 ∨ 999999 < t) → post (.inr (some (vI 0))) (bc_up M 33 0 4 2)) (k3 : M 33 0 3 = 1 → ¬ (t < 0 ∨ 999999 < t) → ∀ M' : bc_M, QM M M' → ML M' dk fr nd ni sg ln → post (.inr (some (vI (M' 42 0 (t % (sp_S dk fr nd ni + sg * ln)))))) M') (ha : 0 ≤ M 33 0 2 ∧ M 33 0 2 ≤ 10) (hit : 0 ≤ M 33 0 6 ∧ M 33 0 6 ≤ 16) (hdi : 0 ≤ M 33 0 5 ∧ M 33 0 5 ≤ 4) (hcl : 0 ≤ M 33 0 7 ∧ M 33 0 7 ≤ 4) (h_t : -2147483648 ≤ t ∧ t < 2147483648 := by omega) : bc_Call G yX9_slotAt cX9_slotAt 2 (some .int) 12 0 [vR G 33 0, vI t] M post := by
  refine bc_enter (L := [some (vR G 33 0), some (vI t)]) (by decide) rfl rfl ?_
  refine wp_aload_n eX9_slotAt_0 rfl ?_
  refine wp_iload_n eX9_slotAt_1 rfl ?_
  refine wp_i2l eX9_slotAt_2 ?_
  refine wp_lconst0 eX9_slotAt_3 ?_
  refine wp_ldc2 (n := 999999) eX9_slotAt_4 kc_X9_352 (by decide) ?_
  refine c_X9_75 eX9_slotAt_7 (ct_mIsIn ?_)
  by_cases hb9 : 0 ≤ t ∧ t ≤ 999999
  · rw [if_pos hb9]
    refine c_X9_201 eX9_slotAt_10 (ct_mIsWrong ?_)
    rcases hl with hl0 | hl1
    · rw [show mo_thr M 1 = 1 by unfold mo_thr; rw [if_pos hl0]]
      refine wp_if_eq eX9_slotAt_13 (fun c13 => ?_) (fun c13 => ?_)
      · exact absurd c13 (by decide)
      · refine wp_iconst eX9_slotAt_16 ?_
        refine wp_ireturn eX9_slotAt_17 ?_
        exact k1 hl0
    · rw [show mo_thr M 1 = 0 by unfold mo_thr; rw [if_neg (by omega), if_neg (by decide)]]
      have hs0 := up_ms (f := 4) (v := 0) (hI hl1) (by decide) (by decide)
      have hs9 := hI hl1
      have hni := hs0.1.2.1
      have hnd := hs0.1.1
      have e6 := hs9.2.1.2
      have e5 := hs9.2.1.1
      refine wp_if_eq eX9_slotAt_13 (fun c13 => ?_) (fun c13 => ?_)
      · refine wp_aload_n eX9_slotAt_18 rfl ?_
        refine c_X9_242 eX9_slotAt_19 (ct_layP hs0 (fun M1 hLY hML => ?_))
        have hq1 := QM.b0.ly hLY
        have hlen := hML.len hs0.1
        have hs1 := hLY.ms hs0
        refine wp_aload_n eX9_slotAt_22 rfl ?_
        refine gf_X9_38 eX9_slotAt_23 ?_
        refine wp_iload_n eX9_slotAt_26 rfl ?_
        refine wp_aload_n eX9_slotAt_27 rfl ?_
        refine gf_X9_231 eX9_slotAt_28 ?_
        rw [hML.1.2]
        refine wp_irem eX9_slotAt_31 ?_
        have hm1 := Int.emod_nonneg t (show sp_S dk fr nd ni + sg * ln ≠ 0 by omega)
        have hm2 := Int.emod_lt_of_pos t (show 0 < sp_S dk fr nd ni + sg * ln by omega)
        refine al_42 eX9_slotAt_32 ?_
        refine wp_ireturn eX9_slotAt_33 ?_
        exact k3 hl1 (by omega) M1 hq1 hML
      · exact absurd (by decide) c13
  · rw [if_neg hb9]
    refine c_X9_201 eX9_slotAt_10 (ct_mIsWrong ?_)
    rcases hl with hl0 | hl1
    · rw [show mo_thr M 0 = 1 by unfold mo_thr; rw [if_pos hl0]]
      refine wp_if_eq eX9_slotAt_13 (fun c13 => ?_) (fun c13 => ?_)
      · exact absurd c13 (by decide)
      · refine wp_iconst eX9_slotAt_16 ?_
        refine wp_ireturn eX9_slotAt_17 ?_
        exact k1 hl0
    · rw [show mo_thr M 0 = 2 by unfold mo_thr; rw [if_neg (by omega), if_pos rfl]]
      refine wp_if_eq eX9_slotAt_13 (fun c13 => ?_) (fun c13 => ?_)
      · exact absurd c13 (by decide)
      · refine wp_iconst eX9_slotAt_16 ?_
        refine wp_ireturn eX9_slotAt_17 ?_
        exact k2 hl1 (by omega)
theorem ct_mOccurrences {G : bc_G} {M : bc_M} {post : bc_R → bc_M → Prop} {i : Int} {dk fr pop bnd : Int → Int} {nd ni sg ln : Int} (hI : M 33 0 3 = 1 → MS M dk fr pop bnd nd ni sg ln) (hl : M 33 0 3 = 0 ∨ M 33 0 3 = 1) (k1 : M 33 0 3 = 0 → post (.inr (some (vI 0))) (bc_up M 33 0 4 1)) (k2 : M 33 0 3 = 1 → (i < 0 ∨ M 33 0 6 ≤ i) → post (.inr (some (vI 0))) (bc_up M 33 0 4 2)) (k3 : M 33 0 3 = 1 → ¬ (i < 0 ∨ M 33 0 6 ≤ i) → ∀ M' : bc_M, QM M M' → post (.inr (some (vI (fr (dk i))))) M') (ha : 0 ≤ M 33 0 2 ∧ M 33 0 2 ≤ 10) (hit : 0 ≤ M 33 0 6 ∧ M 33 0 6 ≤ 16) (hdi : 0 ≤ M 33 0 5 ∧ M 33 0 5 ≤ 4) (hcl : 0 ≤ M 33 0 7 ∧ M 33 0 7 ≤ 4) (h_i : -2147483648 ≤ i ∧ i < 2147483648 := by omega) : bc_Call G yX9_occurrences cX9_occurrences 2 (some .int) 12 0 [vR G 33 0, vI i] M post := by
  refine bc_enter (L := [some (vR G 33 0), some (vI i)]) (by decide) rfl rfl ?_
  refine wp_aload_n eX9_occurrences_0 rfl ?_
  refine wp_aload_n eX9_occurrences_1 rfl ?_
  refine wp_iload_n eX9_occurrences_2 rfl ?_
  refine c_X9_273 eX9_occurrences_3 (ct_mIsItem ?_)
  by_cases hb9 : 0 ≤ i ∧ i ≤ M 33 0 6 - 1
  · rw [if_pos hb9]
    refine c_X9_201 eX9_occurrences_6 (ct_mIsWrong ?_)
    rcases hl with hl0 | hl1
    · rw [show mo_thr M 1 = 1 by unfold mo_thr; rw [if_pos hl0]]
      refine wp_if_eq eX9_occurrences_9 (fun c9 => ?_) (fun c9 => ?_)
      · exact absurd c9 (by decide)
      · refine wp_iconst eX9_occurrences_12 ?_
        refine wp_ireturn eX9_occurrences_13 ?_
        exact k1 hl0
    · rw [show mo_thr M 1 = 0 by unfold mo_thr; rw [if_neg (by omega), if_neg (by decide)]]
      have hs0 := up_ms (f := 4) (v := 0) (hI hl1) (by decide) (by decide)
      have hs9 := hI hl1
      have hni := hs0.1.2.1
      have hnd := hs0.1.1
      have e6 := hs9.2.1.2
      have e5 := hs9.2.1.1
      refine wp_if_eq eX9_occurrences_9 (fun c9 => ?_) (fun c9 => ?_)
      · refine wp_aload_n eX9_occurrences_14 rfl ?_
        refine c_X9_242 eX9_occurrences_15 (ct_layP hs0 (fun M1 hLY hML => ?_))
        have hq1 := QM.b0.ly hLY
        have hlen := hML.len hs0.1
        have hs1 := hLY.ms hs0
        refine wp_aload_n eX9_occurrences_18 rfl ?_
        refine wp_iload_n eX9_occurrences_19 rfl ?_
        refine c_X9_354 eX9_occurrences_20 (ct_timesOf (p := M1 42 0) (len := sp_S dk fr nd ni + sg * ln) hlen (by omega) hML.1.2 rfl (fun t a b => P_rng hs0.1 hML.2.1 hML.2.2 ⟨a, b⟩) ?_)
        refine wp_ireturn eX9_occurrences_23 ?_
        rw [(gap_eq hs0.1 spM_br hML.2.1 hML.2.2 (i := i) (by omega)).2]
        exact k3 hl1 (by omega) M1 hq1
      · exact absurd (by decide) c9
  · rw [if_neg hb9]
    refine c_X9_201 eX9_occurrences_6 (ct_mIsWrong ?_)
    rcases hl with hl0 | hl1
    · rw [show mo_thr M 0 = 1 by unfold mo_thr; rw [if_pos hl0]]
      refine wp_if_eq eX9_occurrences_9 (fun c9 => ?_) (fun c9 => ?_)
      · exact absurd c9 (by decide)
      · refine wp_iconst eX9_occurrences_12 ?_
        refine wp_ireturn eX9_occurrences_13 ?_
        exact k1 hl0
    · rw [show mo_thr M 0 = 2 by unfold mo_thr; rw [if_neg (by omega), if_pos rfl]]
      refine wp_if_eq eX9_occurrences_9 (fun c9 => ?_) (fun c9 => ?_)
      · exact absurd c9 (by decide)
      · refine wp_iconst eX9_occurrences_12 ?_
        refine wp_ireturn eX9_occurrences_13 ?_
        exact k2 hl1 (by omega)
theorem ct_mEmptySlots {G : bc_G} {M : bc_M} {post : bc_R → bc_M → Prop} {dk fr pop bnd : Int → Int} {nd ni sg ln : Int} (hI : M 33 0 3 = 1 → MS M dk fr pop bnd nd ni sg ln) (hl : M 33 0 3 = 0 ∨ M 33 0 3 = 1) (k1 : M 33 0 3 = 0 → post (.inr (some (vI 0))) (bc_up M 33 0 4 1)) (k3 : M 33 0 3 = 1 → ∀ M' : bc_M, QM M M' → ML M' dk fr nd ni sg ln → post (.inr (some (vI (tmn (M' 42 0) (-2) (sp_S dk fr nd ni + sg * ln).toNat 0 0)))) M') (ha : 0 ≤ M 33 0 2 ∧ M 33 0 2 ≤ 10) (hit : 0 ≤ M 33 0 6 ∧ M 33 0 6 ≤ 16) (hdi : 0 ≤ M 33 0 5 ∧ M 33 0 5 ≤ 4) (hcl : 0 ≤ M 33 0 7 ∧ M 33 0 7 ≤ 4)  : bc_Call G yX9_emptySlots cX9_emptySlots 1 (some .int) 12 0 [vR G 33 0] M post := by
  refine bc_enter (L := [some (vR G 33 0)]) (by decide) rfl rfl ?_
  refine wp_aload_n eX9_emptySlots_0 rfl ?_
  refine wp_iconst eX9_emptySlots_1 ?_
  refine c_X9_201 eX9_emptySlots_2 (ct_mIsWrong ?_)
  rcases hl with hl0 | hl1
  · rw [show mo_thr M 1 = 1 by unfold mo_thr; rw [if_pos hl0]]
    refine wp_if_eq eX9_emptySlots_5 (fun c5 => ?_) (fun c5 => ?_)
    · exact absurd c5 (by decide)
    · refine wp_iconst eX9_emptySlots_8 ?_
      refine wp_ireturn eX9_emptySlots_9 ?_
      exact k1 hl0
  · rw [show mo_thr M 1 = 0 by unfold mo_thr; rw [if_neg (by omega), if_neg (by decide)]]
    have hs0 := up_ms (f := 4) (v := 0) (hI hl1) (by decide) (by decide)
    have hs9 := hI hl1
    have hni := hs0.1.2.1
    have hnd := hs0.1.1
    have e6 := hs9.2.1.2
    have e5 := hs9.2.1.1
    refine wp_if_eq eX9_emptySlots_5 (fun c5 => ?_) (fun c5 => ?_)
    · refine wp_aload_n eX9_emptySlots_10 rfl ?_
      refine c_X9_242 eX9_emptySlots_11 (ct_layP hs0 (fun M1 hLY hML => ?_))
      have hq1 := QM.b0.ly hLY
      have hlen := hML.len hs0.1
      have hs1 := hLY.ms hs0
      refine wp_aload_n eX9_emptySlots_14 rfl ?_
      refine wp_bipush eX9_emptySlots_15 ?_
      refine c_X9_354 eX9_emptySlots_17 (ct_timesOf (p := M1 42 0) (len := sp_S dk fr nd ni + sg * ln) hlen (by omega) hML.1.2 rfl (fun t a b => P_rng hs0.1 hML.2.1 hML.2.2 ⟨a, b⟩) ?_)
      refine wp_ireturn eX9_emptySlots_20 ?_
      exact k3 hl1 M1 hq1 hML
    · exact absurd (by decide) c5
theorem ct_mGap {G : bc_G} {M : bc_M} {post : bc_R → bc_M → Prop} {i : Int} {dk fr pop bnd : Int → Int} {nd ni sg ln : Int} (hI : M 33 0 3 = 1 → MS M dk fr pop bnd nd ni sg ln) (hl : M 33 0 3 = 0 ∨ M 33 0 3 = 1) (k1 : M 33 0 3 = 0 → post (.inr (some (vI 0))) (bc_up M 33 0 4 1)) (k2 : M 33 0 3 = 1 → (i < 0 ∨ M 33 0 6 ≤ i) → post (.inr (some (vI 0))) (bc_up M 33 0 4 2)) (k3 : M 33 0 3 = 1 → ¬ (i < 0 ∨ M 33 0 6 ≤ i) → ∀ M' : bc_M, QM M M' → post (.inr (some (vI (pg_gap (spM dk fr nd ni sg ln) 0 i)))) M') (ha : 0 ≤ M 33 0 2 ∧ M 33 0 2 ≤ 10) (hit : 0 ≤ M 33 0 6 ∧ M 33 0 6 ≤ 16) (hdi : 0 ≤ M 33 0 5 ∧ M 33 0 5 ≤ 4) (hcl : 0 ≤ M 33 0 7 ∧ M 33 0 7 ≤ 4) (h_i : -2147483648 ≤ i ∧ i < 2147483648 := by omega) : bc_Call G yX9_gap cX9_gap 2 (some .int) 12 0 [vR G 33 0, vI i] M post := by
  refine bc_enter (L := [some (vR G 33 0), some (vI i)]) (by decide) rfl rfl ?_
  refine wp_aload_n eX9_gap_0 rfl ?_
  refine wp_aload_n eX9_gap_1 rfl ?_
  refine wp_iload_n eX9_gap_2 rfl ?_
  refine c_X9_273 eX9_gap_3 (ct_mIsItem ?_)
  by_cases hb9 : 0 ≤ i ∧ i ≤ M 33 0 6 - 1
  · rw [if_pos hb9]
    refine c_X9_201 eX9_gap_6 (ct_mIsWrong ?_)
    rcases hl with hl0 | hl1
    · rw [show mo_thr M 1 = 1 by unfold mo_thr; rw [if_pos hl0]]
      refine wp_if_eq eX9_gap_9 (fun c9 => ?_) (fun c9 => ?_)
      · exact absurd c9 (by decide)
      · refine wp_iconst eX9_gap_12 ?_
        refine wp_ireturn eX9_gap_13 ?_
        exact k1 hl0
    · rw [show mo_thr M 1 = 0 by unfold mo_thr; rw [if_neg (by omega), if_neg (by decide)]]
      have hs0 := up_ms (f := 4) (v := 0) (hI hl1) (by decide) (by decide)
      have hs9 := hI hl1
      have hni := hs0.1.2.1
      have hnd := hs0.1.1
      have e6 := hs9.2.1.2
      have e5 := hs9.2.1.1
      refine wp_if_eq eX9_gap_9 (fun c9 => ?_) (fun c9 => ?_)
      · refine wp_aload_n eX9_gap_14 rfl ?_
        refine c_X9_242 eX9_gap_15 (ct_layP hs0 (fun M1 hLY hML => ?_))
        have hq1 := QM.b0.ly hLY
        have hlen := hML.len hs0.1
        have hs1 := hLY.ms hs0
        refine wp_aload_n eX9_gap_18 rfl ?_
        refine wp_iload_n eX9_gap_19 rfl ?_
        refine c_X9_245 eX9_gap_20 (ct_gapOf (p := M1 42 0) (len := sp_S dk fr nd ni + sg * ln) hlen (by omega) hML.1.2 rfl (fun t a b => P_rng hs0.1 hML.2.1 hML.2.2 ⟨a, b⟩) (fun M2 g1 => ?_))
        refine wp_ireturn eX9_gap_23 ?_
        rw [(gap_eq hs0.1 spM_br hML.2.1 hML.2.2 (i := i) (by omega)).1]
        exact k3 hl1 (by omega) M2 (hq1.ly (LY.of (g1.mono (fun k9 j9 q => ⟨Or.inl q.1, q.2⟩))))
      · exact absurd (by decide) c9
  · rw [if_neg hb9]
    refine c_X9_201 eX9_gap_6 (ct_mIsWrong ?_)
    rcases hl with hl0 | hl1
    · rw [show mo_thr M 0 = 1 by unfold mo_thr; rw [if_pos hl0]]
      refine wp_if_eq eX9_gap_9 (fun c9 => ?_) (fun c9 => ?_)
      · exact absurd c9 (by decide)
      · refine wp_iconst eX9_gap_12 ?_
        refine wp_ireturn eX9_gap_13 ?_
        exact k1 hl0
    · rw [show mo_thr M 0 = 2 by unfold mo_thr; rw [if_neg (by omega), if_pos rfl]]
      refine wp_if_eq eX9_gap_9 (fun c9 => ?_) (fun c9 => ?_)
      · exact absurd c9 (by decide)
      · refine wp_iconst eX9_gap_12 ?_
        refine wp_ireturn eX9_gap_13 ?_
        exact k2 hl1 (by omega)
theorem ct_mViolations {G : bc_G} {M : bc_M} {post : bc_R → bc_M → Prop} {dk fr pop bnd : Int → Int} {nd ni sg ln : Int} (hI : M 33 0 3 = 1 → MS M dk fr pop bnd nd ni sg ln) (hl : M 33 0 3 = 0 ∨ M 33 0 3 = 1) (k1 : M 33 0 3 = 0 → post (.inr (some (vI 0))) (bc_up M 33 0 4 1)) (k3 : M 33 0 3 = 1 → ∀ M' : bc_M, QM M M' → post (.inr (some (vI (sp_V dk fr bnd nd ni sg ln)))) M') (ha : 0 ≤ M 33 0 2 ∧ M 33 0 2 ≤ 10) (hit : 0 ≤ M 33 0 6 ∧ M 33 0 6 ≤ 16) (hdi : 0 ≤ M 33 0 5 ∧ M 33 0 5 ≤ 4) (hcl : 0 ≤ M 33 0 7 ∧ M 33 0 7 ≤ 4)  : bc_Call G yX9_violations cX9_violations 1 (some .int) 12 0 [vR G 33 0] M post := by
  refine bc_enter (L := [some (vR G 33 0)]) (by decide) rfl rfl ?_
  refine wp_aload_n eX9_violations_0 rfl ?_
  refine wp_iconst eX9_violations_1 ?_
  refine c_X9_201 eX9_violations_2 (ct_mIsWrong ?_)
  rcases hl with hl0 | hl1
  · rw [show mo_thr M 1 = 1 by unfold mo_thr; rw [if_pos hl0]]
    refine wp_if_eq eX9_violations_5 (fun c5 => ?_) (fun c5 => ?_)
    · exact absurd c5 (by decide)
    · refine wp_iconst eX9_violations_8 ?_
      refine wp_goto eX9_violations_9 ?_
      refine wp_ireturn eX9_violations_16 ?_
      exact k1 hl0
  · rw [show mo_thr M 1 = 0 by unfold mo_thr; rw [if_neg (by omega), if_neg (by decide)]]
    have hs0 := up_ms (f := 4) (v := 0) (hI hl1) (by decide) (by decide)
    have hs9 := hI hl1
    have hni := hs0.1.2.1
    have hnd := hs0.1.1
    have e6 := hs9.2.1.2
    have e5 := hs9.2.1.1
    refine wp_if_eq eX9_violations_5 (fun c5 => ?_) (fun c5 => ?_)
    · refine wp_aload_n eX9_violations_12 rfl ?_
      refine c_X9_303 eX9_violations_13 (ct_violating hs0 (fun M1 g1 g2 => ?_))
      refine wp_ireturn eX9_violations_16 ?_
      exact k3 hl1 M1 (QM.b0.ly g1)
    · exact absurd (by decide) c5
theorem ct_mNextTime {G : bc_G} {M : bc_M} {post : bc_R → bc_M → Prop} {i t : Int} {dk fr pop bnd : Int → Int} {nd ni sg ln : Int} (hI : M 33 0 3 = 1 → MS M dk fr pop bnd nd ni sg ln) (hl : M 33 0 3 = 0 ∨ M 33 0 3 = 1) (k1 : M 33 0 3 = 0 → post (.inr (some (vI 0))) (bc_up M 33 0 4 1)) (k2 : M 33 0 3 = 1 → (i < 0 ∨ M 33 0 6 ≤ i ∨ t < 0 ∨ 999999 < t) → post (.inr (some (vI 0))) (bc_up M 33 0 4 2)) (k3 : M 33 0 3 = 1 → ¬ (i < 0 ∨ M 33 0 6 ≤ i ∨ t < 0 ∨ 999999 < t) → ∀ M' : bc_M, QM M M' → post (.inr (some (vI (t + (pg_nx (spM dk fr nd ni sg ln) 0 i (t % (sp_S dk fr nd ni + sg * ln)) - t % (sp_S dk fr nd ni + sg * ln)))))) M') (ha : 0 ≤ M 33 0 2 ∧ M 33 0 2 ≤ 10) (hit : 0 ≤ M 33 0 6 ∧ M 33 0 6 ≤ 16) (hdi : 0 ≤ M 33 0 5 ∧ M 33 0 5 ≤ 4) (hcl : 0 ≤ M 33 0 7 ∧ M 33 0 7 ≤ 4) (h_i : -2147483648 ≤ i ∧ i < 2147483648 := by omega) (h_t : -2147483648 ≤ t ∧ t < 2147483648 := by omega) : bc_Call G yX9_nextTime cX9_nextTime 3 (some .int) 12 0 [vR G 33 0, vI i, vI t] M post := by
  refine bc_enter (L := [some (vR G 33 0), some (vI i), some (vI t)]) (by decide) rfl rfl ?_
  refine wp_aload_n eX9_nextTime_0 rfl ?_
  refine wp_aload_n eX9_nextTime_1 rfl ?_
  refine wp_iload_n eX9_nextTime_2 rfl ?_
  refine c_X9_273 eX9_nextTime_3 (ct_mIsItem ?_)
  refine wp_if_eq eX9_nextTime_6 (fun c6 => ?_) (fun c6 => ?_) (by split <;> decide)
  · have g6 : ¬ (0 ≤ i ∧ i ≤ M 33 0 6 - 1) := by
      intro h9
      rw [if_pos h9] at c6
      exact absurd c6 (by decide)
    refine wp_iconst eX9_nextTime_25 ?_
    refine c_X9_201 eX9_nextTime_26 (ct_mIsWrong ?_)
    rcases hl with hl0 | hl1
    · rw [show mo_thr M 0 = 1 by unfold mo_thr; rw [if_pos hl0]]
      refine wp_if_eq eX9_nextTime_29 (fun c29 => ?_) (fun c29 => ?_)
      · exact absurd c29 (by decide)
      · refine wp_iconst eX9_nextTime_32 ?_
        refine wp_ireturn eX9_nextTime_33 ?_
        exact k1 hl0
    · rw [show mo_thr M 0 = 2 by unfold mo_thr; rw [if_neg (by omega), if_pos rfl]]
      refine wp_if_eq eX9_nextTime_29 (fun c29 => ?_) (fun c29 => ?_)
      · exact absurd c29 (by decide)
      · refine wp_iconst eX9_nextTime_32 ?_
        refine wp_ireturn eX9_nextTime_33 ?_
        exact k2 hl1 (by omega)
  · have g6 : 0 ≤ i ∧ i ≤ M 33 0 6 - 1 := by
      apply Decidable.byContradiction
      intro h9
      rw [if_neg h9] at c6
      exact absurd rfl c6
    refine wp_iload_n eX9_nextTime_9 rfl ?_
    refine wp_i2l eX9_nextTime_10 ?_
    refine wp_lconst0 eX9_nextTime_11 ?_
    refine wp_ldc2 (n := 999999) eX9_nextTime_12 kc_X9_352 (by decide) ?_
    refine c_X9_75 eX9_nextTime_15 (ct_mIsIn ?_)
    refine wp_if_eq eX9_nextTime_18 (fun c18 => ?_) (fun c18 => ?_) (by split <;> decide)
    · have g18 : ¬ (0 ≤ t ∧ t ≤ 999999) := by
        intro h9
        rw [if_pos h9] at c18
        exact absurd c18 (by decide)
      refine wp_iconst eX9_nextTime_25 ?_
      refine c_X9_201 eX9_nextTime_26 (ct_mIsWrong ?_)
      rcases hl with hl0 | hl1
      · rw [show mo_thr M 0 = 1 by unfold mo_thr; rw [if_pos hl0]]
        refine wp_if_eq eX9_nextTime_29 (fun c29 => ?_) (fun c29 => ?_)
        · exact absurd c29 (by decide)
        · refine wp_iconst eX9_nextTime_32 ?_
          refine wp_ireturn eX9_nextTime_33 ?_
          exact k1 hl0
      · rw [show mo_thr M 0 = 2 by unfold mo_thr; rw [if_neg (by omega), if_pos rfl]]
        refine wp_if_eq eX9_nextTime_29 (fun c29 => ?_) (fun c29 => ?_)
        · exact absurd c29 (by decide)
        · refine wp_iconst eX9_nextTime_32 ?_
          refine wp_ireturn eX9_nextTime_33 ?_
          exact k2 hl1 (by omega)
    · have g18 : 0 ≤ t ∧ t ≤ 999999 := by
        apply Decidable.byContradiction
        intro h9
        rw [if_neg h9] at c18
        exact absurd rfl c18
      refine wp_iconst eX9_nextTime_21 ?_
      refine wp_goto eX9_nextTime_22 ?_
      refine c_X9_201 eX9_nextTime_26 (ct_mIsWrong ?_)
      rcases hl with hl0 | hl1
      · rw [show mo_thr M 1 = 1 by unfold mo_thr; rw [if_pos hl0]]
        refine wp_if_eq eX9_nextTime_29 (fun c29 => ?_) (fun c29 => ?_)
        · exact absurd c29 (by decide)
        · refine wp_iconst eX9_nextTime_32 ?_
          refine wp_ireturn eX9_nextTime_33 ?_
          exact k1 hl0
      · rw [show mo_thr M 1 = 0 by unfold mo_thr; rw [if_neg (by omega), if_neg (by decide)]]
        have hs0 := up_ms (f := 4) (v := 0) (hI hl1) (by decide) (by decide)
        have hs9 := hI hl1
        have hni := hs0.1.2.1
        have hnd := hs0.1.1
        have e6 := hs9.2.1.2
        have e5 := hs9.2.1.1
        refine wp_if_eq eX9_nextTime_29 (fun c29 => ?_) (fun c29 => ?_)
        · refine wp_aload_n eX9_nextTime_34 rfl ?_
          refine c_X9_242 eX9_nextTime_35 (ct_layP hs0 (fun M1 hLY hML => ?_))
          have hq1 := QM.b0.ly hLY
          have hlen := hML.len hs0.1
          have hs1 := hLY.ms hs0
          refine wp_aload_n eX9_nextTime_38 rfl ?_
          refine wp_aload_n eX9_nextTime_39 rfl ?_
          refine gf_X9_41 eX9_nextTime_40 ?_
          refine wp_iload_n eX9_nextTime_43 rfl ?_
          refine c_X9_233 eX9_nextTime_44 (ct_layFar43 (p := M1 42 0) (len := sp_S dk fr nd ni + sg * ln) hlen (by omega) hML.1.2 rfl (fun t a b => P_rng hs0.1 hML.2.1 hML.2.2 ⟨a, b⟩) (fun M2 g1 g2 => ?_))
          have e27 : M2 33 0 27 = sp_S dk fr nd ni + sg * ln := by rw [g1 33 0 (by unfold at1; omega)]; exact hML.1.2
          refine wp_iload_n eX9_nextTime_47 rfl ?_
          refine wp_aload_n eX9_nextTime_48 rfl ?_
          refine gf_X9_41 eX9_nextTime_49 ?_
          refine wp_iload_n eX9_nextTime_52 rfl ?_
          refine wp_aload_n eX9_nextTime_53 rfl ?_
          refine gf_X9_231 eX9_nextTime_54 ?_
          rw [e27]
          refine wp_irem eX9_nextTime_57 ?_
          have hm1 := Int.emod_nonneg t (show sp_S dk fr nd ni + sg * ln ≠ 0 by omega)
          have hm2 := Int.emod_lt_of_pos t (show 0 < sp_S dk fr nd ni + sg * ln by omega)
          refine al_43 eX9_nextTime_58 ?_
          rw [g2 _ hm1 hm2]
          refine wp_iadd eX9_nextTime_59 ?_
          refine wp_ireturn eX9_nextTime_60 ?_
          rw [(far_nx hs0.1 spM_br hML.2.1 hML.2.2 (i := i) (by omega) ⟨hm1, hm2⟩).1]
          exact k3 hl1 (by omega) M2 (hq1.ly (LY.of (g1.mono (fun k9 j9 q => ⟨Or.inl q.1, q.2⟩))))
        · exact absurd (by decide) c29
theorem ct_mAccessTime {G : bc_G} {M : bc_M} {post : bc_R → bc_M → Prop} {i t : Int} {dk fr pop bnd : Int → Int} {nd ni sg ln : Int} (hI : M 33 0 3 = 1 → MS M dk fr pop bnd nd ni sg ln) (hl : M 33 0 3 = 0 ∨ M 33 0 3 = 1) (k1 : M 33 0 3 = 0 → post (.inr (some (vI 0))) (bc_up M 33 0 4 1)) (k2 : M 33 0 3 = 1 → (i < 0 ∨ M 33 0 6 ≤ i ∨ t < 0 ∨ 999999 < t) → post (.inr (some (vI 0))) (bc_up M 33 0 4 2)) (k3 : M 33 0 3 = 1 → ¬ (i < 0 ∨ M 33 0 6 ≤ i ∨ t < 0 ∨ 999999 < t) → ∀ M' : bc_M, QM M M' → post (.inr (some (vI (sW dk fr nd ni sg ln i t)))) M') (ha : 0 ≤ M 33 0 2 ∧ M 33 0 2 ≤ 10) (hit : 0 ≤ M 33 0 6 ∧ M 33 0 6 ≤ 16) (hdi : 0 ≤ M 33 0 5 ∧ M 33 0 5 ≤ 4) (hcl : 0 ≤ M 33 0 7 ∧ M 33 0 7 ≤ 4) (h_i : -2147483648 ≤ i ∧ i < 2147483648 := by omega) (h_t : -2147483648 ≤ t ∧ t < 2147483648 := by omega) : bc_Call G yX9_accessTime cX9_accessTime 3 (some .int) 12 0 [vR G 33 0, vI i, vI t] M post := by
  refine bc_enter (L := [some (vR G 33 0), some (vI i), some (vI t)]) (by decide) rfl rfl ?_
  refine wp_aload_n eX9_accessTime_0 rfl ?_
  refine wp_aload_n eX9_accessTime_1 rfl ?_
  refine wp_iload_n eX9_accessTime_2 rfl ?_
  refine c_X9_273 eX9_accessTime_3 (ct_mIsItem ?_)
  refine wp_if_eq eX9_accessTime_6 (fun c6 => ?_) (fun c6 => ?_) (by split <;> decide)
  · have g6 : ¬ (0 ≤ i ∧ i ≤ M 33 0 6 - 1) := by
      intro h9
      rw [if_pos h9] at c6
      exact absurd c6 (by decide)
    refine wp_iconst eX9_accessTime_25 ?_
    refine c_X9_201 eX9_accessTime_26 (ct_mIsWrong ?_)
    rcases hl with hl0 | hl1
    · rw [show mo_thr M 0 = 1 by unfold mo_thr; rw [if_pos hl0]]
      refine wp_if_eq eX9_accessTime_29 (fun c29 => ?_) (fun c29 => ?_)
      · exact absurd c29 (by decide)
      · refine wp_iconst eX9_accessTime_32 ?_
        refine wp_ireturn eX9_accessTime_33 ?_
        exact k1 hl0
    · rw [show mo_thr M 0 = 2 by unfold mo_thr; rw [if_neg (by omega), if_pos rfl]]
      refine wp_if_eq eX9_accessTime_29 (fun c29 => ?_) (fun c29 => ?_)
      · exact absurd c29 (by decide)
      · refine wp_iconst eX9_accessTime_32 ?_
        refine wp_ireturn eX9_accessTime_33 ?_
        exact k2 hl1 (by omega)
  · have g6 : 0 ≤ i ∧ i ≤ M 33 0 6 - 1 := by
      apply Decidable.byContradiction
      intro h9
      rw [if_neg h9] at c6
      exact absurd rfl c6
    refine wp_iload_n eX9_accessTime_9 rfl ?_
    refine wp_i2l eX9_accessTime_10 ?_
    refine wp_lconst0 eX9_accessTime_11 ?_
    refine wp_ldc2 (n := 999999) eX9_accessTime_12 kc_X9_352 (by decide) ?_
    refine c_X9_75 eX9_accessTime_15 (ct_mIsIn ?_)
    refine wp_if_eq eX9_accessTime_18 (fun c18 => ?_) (fun c18 => ?_) (by split <;> decide)
    · have g18 : ¬ (0 ≤ t ∧ t ≤ 999999) := by
        intro h9
        rw [if_pos h9] at c18
        exact absurd c18 (by decide)
      refine wp_iconst eX9_accessTime_25 ?_
      refine c_X9_201 eX9_accessTime_26 (ct_mIsWrong ?_)
      rcases hl with hl0 | hl1
      · rw [show mo_thr M 0 = 1 by unfold mo_thr; rw [if_pos hl0]]
        refine wp_if_eq eX9_accessTime_29 (fun c29 => ?_) (fun c29 => ?_)
        · exact absurd c29 (by decide)
        · refine wp_iconst eX9_accessTime_32 ?_
          refine wp_ireturn eX9_accessTime_33 ?_
          exact k1 hl0
      · rw [show mo_thr M 0 = 2 by unfold mo_thr; rw [if_neg (by omega), if_pos rfl]]
        refine wp_if_eq eX9_accessTime_29 (fun c29 => ?_) (fun c29 => ?_)
        · exact absurd c29 (by decide)
        · refine wp_iconst eX9_accessTime_32 ?_
          refine wp_ireturn eX9_accessTime_33 ?_
          exact k2 hl1 (by omega)
    · have g18 : 0 ≤ t ∧ t ≤ 999999 := by
        apply Decidable.byContradiction
        intro h9
        rw [if_neg h9] at c18
        exact absurd rfl c18
      refine wp_iconst eX9_accessTime_21 ?_
      refine wp_goto eX9_accessTime_22 ?_
      refine c_X9_201 eX9_accessTime_26 (ct_mIsWrong ?_)
      rcases hl with hl0 | hl1
      · rw [show mo_thr M 1 = 1 by unfold mo_thr; rw [if_pos hl0]]
        refine wp_if_eq eX9_accessTime_29 (fun c29 => ?_) (fun c29 => ?_)
        · exact absurd c29 (by decide)
        · refine wp_iconst eX9_accessTime_32 ?_
          refine wp_ireturn eX9_accessTime_33 ?_
          exact k1 hl0
      · rw [show mo_thr M 1 = 0 by unfold mo_thr; rw [if_neg (by omega), if_neg (by decide)]]
        have hs0 := up_ms (f := 4) (v := 0) (hI hl1) (by decide) (by decide)
        have hs9 := hI hl1
        have hni := hs0.1.2.1
        have hnd := hs0.1.1
        have e6 := hs9.2.1.2
        have e5 := hs9.2.1.1
        refine wp_if_eq eX9_accessTime_29 (fun c29 => ?_) (fun c29 => ?_)
        · refine wp_aload_n eX9_accessTime_34 rfl ?_
          refine c_X9_242 eX9_accessTime_35 (ct_layP hs0 (fun M1 hLY hML => ?_))
          have hq1 := QM.b0.ly hLY
          have hlen := hML.len hs0.1
          have hs1 := hLY.ms hs0
          refine wp_aload_n eX9_accessTime_38 rfl ?_
          refine wp_iload_n eX9_accessTime_39 rfl ?_
          refine c_X9_248 eX9_accessTime_40 (ct_lay (x := i) (p := M1 42 0) (len := sp_S dk fr nd ni + sg * ln) hlen (by omega) hML.1.2 rfl (fun t a b => P_rng hs0.1 hML.2.1 hML.2.2 ⟨a, b⟩) (fun M2 g1 g2 g3 => ?_))
          have e27 : M2 33 0 27 = sp_S dk fr nd ni + sg * ln := by rw [g1 33 0 (by omega)]; exact hML.1.2
          have hq2 := hq1.ly (LY.of g1)
          have hs2 := (LY.of g1).ms hs1
          refine wp_aload_n eX9_accessTime_43 rfl ?_
          refine wp_iload_n eX9_accessTime_44 rfl ?_
          refine wp_aload_n eX9_accessTime_45 rfl ?_
          refine gf_X9_231 eX9_accessTime_46 ?_
          rw [e27]
          refine wp_irem eX9_accessTime_49 ?_
          have hm1 := Int.emod_nonneg t (show sp_S dk fr nd ni + sg * ln ≠ 0 by omega)
          have hm2 := Int.emod_lt_of_pos t (show 0 < sp_S dk fr nd ni + sg * ln by omega)
          refine c_X9_251 eX9_accessTime_50 (ct_accessAt (p := M1 42 0) hlen e27 hs2.2.2.2.2.1.1 hs2.2.2.2.2.1.2 hs0.1.2.2.1 hs0.1.2.2.2.1 g2 g3 (t := t % (sp_S dk fr nd ni + sg * ln)) ⟨hm1, hm2⟩ ?_)
          refine wp_ireturn eX9_accessTime_53 ?_
          rw [(acc_eq hs0.1 spM_br hML.2.1 hML.2.2 (t := t) (i := i) (by omega)).1]
          exact k3 hl1 (by omega) M2 hq2
        · exact absurd (by decide) c29
theorem ct_mTuningTime {G : bc_G} {M : bc_M} {post : bc_R → bc_M → Prop} {i t : Int} {dk fr pop bnd : Int → Int} {nd ni sg ln : Int} (hI : M 33 0 3 = 1 → MS M dk fr pop bnd nd ni sg ln) (hl : M 33 0 3 = 0 ∨ M 33 0 3 = 1) (k1 : M 33 0 3 = 0 → post (.inr (some (vI 0))) (bc_up M 33 0 4 1)) (k2 : M 33 0 3 = 1 → (i < 0 ∨ M 33 0 6 ≤ i ∨ t < 0 ∨ 999999 < t) → post (.inr (some (vI 0))) (bc_up M 33 0 4 2)) (k3 : M 33 0 3 = 1 → ¬ (i < 0 ∨ M 33 0 6 ≤ i ∨ t < 0 ∨ 999999 < t) → ∀ M' : bc_M, QM M M' → post (.inr (some (vI (sL dk fr nd ni sg ln i t)))) M') (ha : 0 ≤ M 33 0 2 ∧ M 33 0 2 ≤ 10) (hit : 0 ≤ M 33 0 6 ∧ M 33 0 6 ≤ 16) (hdi : 0 ≤ M 33 0 5 ∧ M 33 0 5 ≤ 4) (hcl : 0 ≤ M 33 0 7 ∧ M 33 0 7 ≤ 4) (h_i : -2147483648 ≤ i ∧ i < 2147483648 := by omega) (h_t : -2147483648 ≤ t ∧ t < 2147483648 := by omega) : bc_Call G yX9_tuningTime cX9_tuningTime 3 (some .int) 12 0 [vR G 33 0, vI i, vI t] M post := by
  refine bc_enter (L := [some (vR G 33 0), some (vI i), some (vI t)]) (by decide) rfl rfl ?_
  refine wp_aload_n eX9_tuningTime_0 rfl ?_
  refine wp_aload_n eX9_tuningTime_1 rfl ?_
  refine wp_iload_n eX9_tuningTime_2 rfl ?_
  refine c_X9_273 eX9_tuningTime_3 (ct_mIsItem ?_)
  refine wp_if_eq eX9_tuningTime_6 (fun c6 => ?_) (fun c6 => ?_) (by split <;> decide)
  · have g6 : ¬ (0 ≤ i ∧ i ≤ M 33 0 6 - 1) := by
      intro h9
      rw [if_pos h9] at c6
      exact absurd c6 (by decide)
    refine wp_iconst eX9_tuningTime_25 ?_
    refine c_X9_201 eX9_tuningTime_26 (ct_mIsWrong ?_)
    rcases hl with hl0 | hl1
    · rw [show mo_thr M 0 = 1 by unfold mo_thr; rw [if_pos hl0]]
      refine wp_if_eq eX9_tuningTime_29 (fun c29 => ?_) (fun c29 => ?_)
      · exact absurd c29 (by decide)
      · refine wp_iconst eX9_tuningTime_32 ?_
        refine wp_ireturn eX9_tuningTime_33 ?_
        exact k1 hl0
    · rw [show mo_thr M 0 = 2 by unfold mo_thr; rw [if_neg (by omega), if_pos rfl]]
      refine wp_if_eq eX9_tuningTime_29 (fun c29 => ?_) (fun c29 => ?_)
      · exact absurd c29 (by decide)
      · refine wp_iconst eX9_tuningTime_32 ?_
        refine wp_ireturn eX9_tuningTime_33 ?_
        exact k2 hl1 (by omega)
  · have g6 : 0 ≤ i ∧ i ≤ M 33 0 6 - 1 := by
      apply Decidable.byContradiction
      intro h9
      rw [if_neg h9] at c6
      exact absurd rfl c6
    refine wp_iload_n eX9_tuningTime_9 rfl ?_
    refine wp_i2l eX9_tuningTime_10 ?_
    refine wp_lconst0 eX9_tuningTime_11 ?_
    refine wp_ldc2 (n := 999999) eX9_tuningTime_12 kc_X9_352 (by decide) ?_
    refine c_X9_75 eX9_tuningTime_15 (ct_mIsIn ?_)
    refine wp_if_eq eX9_tuningTime_18 (fun c18 => ?_) (fun c18 => ?_) (by split <;> decide)
    · have g18 : ¬ (0 ≤ t ∧ t ≤ 999999) := by
        intro h9
        rw [if_pos h9] at c18
        exact absurd c18 (by decide)
      refine wp_iconst eX9_tuningTime_25 ?_
      refine c_X9_201 eX9_tuningTime_26 (ct_mIsWrong ?_)
      rcases hl with hl0 | hl1
      · rw [show mo_thr M 0 = 1 by unfold mo_thr; rw [if_pos hl0]]
        refine wp_if_eq eX9_tuningTime_29 (fun c29 => ?_) (fun c29 => ?_)
        · exact absurd c29 (by decide)
        · refine wp_iconst eX9_tuningTime_32 ?_
          refine wp_ireturn eX9_tuningTime_33 ?_
          exact k1 hl0
      · rw [show mo_thr M 0 = 2 by unfold mo_thr; rw [if_neg (by omega), if_pos rfl]]
        refine wp_if_eq eX9_tuningTime_29 (fun c29 => ?_) (fun c29 => ?_)
        · exact absurd c29 (by decide)
        · refine wp_iconst eX9_tuningTime_32 ?_
          refine wp_ireturn eX9_tuningTime_33 ?_
          exact k2 hl1 (by omega)
    · have g18 : 0 ≤ t ∧ t ≤ 999999 := by
        apply Decidable.byContradiction
        intro h9
        rw [if_neg h9] at c18
        exact absurd rfl c18
      refine wp_iconst eX9_tuningTime_21 ?_
      refine wp_goto eX9_tuningTime_22 ?_
      refine c_X9_201 eX9_tuningTime_26 (ct_mIsWrong ?_)
      rcases hl with hl0 | hl1
      · rw [show mo_thr M 1 = 1 by unfold mo_thr; rw [if_pos hl0]]
        refine wp_if_eq eX9_tuningTime_29 (fun c29 => ?_) (fun c29 => ?_)
        · exact absurd c29 (by decide)
        · refine wp_iconst eX9_tuningTime_32 ?_
          refine wp_ireturn eX9_tuningTime_33 ?_
          exact k1 hl0
      · rw [show mo_thr M 1 = 0 by unfold mo_thr; rw [if_neg (by omega), if_neg (by decide)]]
        have hs0 := up_ms (f := 4) (v := 0) (hI hl1) (by decide) (by decide)
        have hs9 := hI hl1
        have hni := hs0.1.2.1
        have hnd := hs0.1.1
        have e6 := hs9.2.1.2
        have e5 := hs9.2.1.1
        refine wp_if_eq eX9_tuningTime_29 (fun c29 => ?_) (fun c29 => ?_)
        · refine wp_aload_n eX9_tuningTime_34 rfl ?_
          refine c_X9_242 eX9_tuningTime_35 (ct_layP hs0 (fun M1 hLY hML => ?_))
          have hq1 := QM.b0.ly hLY
          have hlen := hML.len hs0.1
          have hs1 := hLY.ms hs0
          refine wp_aload_n eX9_tuningTime_38 rfl ?_
          refine wp_iload_n eX9_tuningTime_39 rfl ?_
          refine c_X9_248 eX9_tuningTime_40 (ct_lay (x := i) (p := M1 42 0) (len := sp_S dk fr nd ni + sg * ln) hlen (by omega) hML.1.2 rfl (fun t a b => P_rng hs0.1 hML.2.1 hML.2.2 ⟨a, b⟩) (fun M2 g1 g2 g3 => ?_))
          have e27 : M2 33 0 27 = sp_S dk fr nd ni + sg * ln := by rw [g1 33 0 (by omega)]; exact hML.1.2
          have hq2 := hq1.ly (LY.of g1)
          have hs2 := (LY.of g1).ms hs1
          refine wp_aload_n eX9_tuningTime_43 rfl ?_
          refine wp_iload_n eX9_tuningTime_44 rfl ?_
          refine wp_aload_n eX9_tuningTime_45 rfl ?_
          refine gf_X9_231 eX9_tuningTime_46 ?_
          rw [e27]
          refine wp_irem eX9_tuningTime_49 ?_
          have hm1 := Int.emod_nonneg t (show sp_S dk fr nd ni + sg * ln ≠ 0 by omega)
          have hm2 := Int.emod_lt_of_pos t (show 0 < sp_S dk fr nd ni + sg * ln by omega)
          refine c_X9_254 eX9_tuningTime_50 (ct_tuningAt (p := M1 42 0) hlen e27 hs2.2.2.2.2.1.1 hs2.2.2.2.2.1.2 hs0.1.2.2.1 hs0.1.2.2.2.1 g2 g3 (t := t % (sp_S dk fr nd ni + sg * ln)) ⟨hm1, hm2⟩ ?_)
          refine wp_ireturn eX9_tuningTime_53 ?_
          rw [(acc_eq hs0.1 spM_br hML.2.1 hML.2.2 (t := t) (i := i) (by omega)).2]
          exact k3 hl1 (by omega) M2 hq2
        · exact absurd (by decide) c29
def mo_wa (W : Int → Int) : Nat → Int → Int → Int
  | 0, _, w => w
  | n + 1, t, w => mo_wa W n (t + 1) (max w (W t))
theorem lp_mWorst {G : bc_G} {M : bc_M} {post : bc_R → bc_M → Prop} {dk fr pop bnd : Int → Int} {nd ni sg ln i : Int} (hs : MS M dk fr pop bnd nd ni sg ln) (hML : ML M dk fr nd ni sg ln) (hi : 0 ≤ i ∧ i < ni) (e43 : ∀ t, 0 ≤ t → t < sp_S dk fr nd ni + sg * ln → M 43 0 t = sp_far (M 42 0) i (sp_S dk fr nd ni + sg * ln) t) (e44 : ∀ t, 0 ≤ t → t < sp_S dk fr nd ni + sg * ln → M 44 0 t = sp_far (M 42 0) (-3) (sp_S dk fr nd ni + sg * ln) t) : ∀ (n : Nat) (t w : Int) (h1 : t + n = sp_S dk fr nd ni + sg * ln) (h2 : 0 ≤ t) (hw : 0 ≤ w ∧ w ≤ 9000) (k : post (.inr (some (vI (mo_wa (sW dk fr nd ni sg ln i) n t w)))) M), bc_W G RX9 cX9_worstAccess 4 (some .int) 12 0 0 27 [some (vR G 33 0), some (vI i), some (vI w), some (vI t)] [] M post := by
  intro n
  induction n with
  | zero =>
    intro t w h1 h2 hw k
    have hlen := hML.len hs.1
    refine wp_iload_n eX9_worstAccess_27 rfl ?_
    refine wp_aload_n eX9_worstAccess_28 rfl ?_
    refine gf_X9_231 eX9_worstAccess_29 ?_
    rw [hML.1.2]
    refine wp_icmp_ge eX9_worstAccess_32 (fun c32 => ?_) (fun c32 => ?_)
    · refine wp_iload_n eX9_worstAccess_51 rfl ?_
      refine wp_ireturn eX9_worstAccess_52 ?_
      exact k
    · omega
  | succ n ih =>
    intro t w h1 h2 hw k
    have hlen := hML.len hs.1
    refine wp_iload_n eX9_worstAccess_27 rfl ?_
    refine wp_aload_n eX9_worstAccess_28 rfl ?_
    refine gf_X9_231 eX9_worstAccess_29 ?_
    rw [hML.1.2]
    refine wp_icmp_ge eX9_worstAccess_32 (fun c32 => ?_) (fun c32 => ?_)
    · omega
    · simp only [mo_wa] at k
      refine wp_iload_n eX9_worstAccess_35 rfl ?_
      refine wp_aload_n eX9_worstAccess_36 rfl ?_
      refine wp_iload_n eX9_worstAccess_37 rfl ?_
      refine c_X9_251 eX9_worstAccess_38 (ct_accessAt hlen hML.1.2 hs.2.2.2.2.1.1 hs.2.2.2.2.1.2 hs.1.2.2.1 hs.1.2.2.2.1 e43 e44 (t := t) (by omega) ?_)
      rw [(acc_at hs.1 hML.2.1 hML.2.2 hi ⟨h2, by omega⟩).1]
      have hwr := (sW_rng (t := t) hs.1 hi).1
      unfold sW at hwr
      refine c_X9_237 eX9_worstAccess_41 (ct_max ?_)
      refine ist_2 eX9_worstAccess_44 ?_
      refine inc_3 eX9_worstAccess_45 ?_
      refine wp_goto eX9_worstAccess_48 ?_
      exact ih (t + 1) _ (by omega) (by omega) (by omega) k
theorem ct_mWorstAccess {G : bc_G} {M : bc_M} {post : bc_R → bc_M → Prop} {i : Int} {dk fr pop bnd : Int → Int} {nd ni sg ln : Int} (hI : M 33 0 3 = 1 → MS M dk fr pop bnd nd ni sg ln) (hl : M 33 0 3 = 0 ∨ M 33 0 3 = 1) (k1 : M 33 0 3 = 0 → post (.inr (some (vI 0))) (bc_up M 33 0 4 1)) (k2 : M 33 0 3 = 1 → (i < 0 ∨ M 33 0 6 ≤ i) → post (.inr (some (vI 0))) (bc_up M 33 0 4 2)) (k3 : M 33 0 3 = 1 → ¬ (i < 0 ∨ M 33 0 6 ≤ i) → ∀ M' : bc_M, QM M M' → post (.inr (some (vI (mo_wa (sW dk fr nd ni sg ln i) (sp_S dk fr nd ni + sg * ln).toNat 0 0)))) M') (ha : 0 ≤ M 33 0 2 ∧ M 33 0 2 ≤ 10) (hit : 0 ≤ M 33 0 6 ∧ M 33 0 6 ≤ 16) (hdi : 0 ≤ M 33 0 5 ∧ M 33 0 5 ≤ 4) (hcl : 0 ≤ M 33 0 7 ∧ M 33 0 7 ≤ 4) (h_i : -2147483648 ≤ i ∧ i < 2147483648 := by omega) : bc_Call G yX9_worstAccess cX9_worstAccess 4 (some .int) 12 0 [vR G 33 0, vI i] M post := by
  refine bc_enter (L := [some (vR G 33 0), some (vI i), none, none]) (by decide) rfl rfl ?_
  refine wp_aload_n eX9_worstAccess_0 rfl ?_
  refine wp_aload_n eX9_worstAccess_1 rfl ?_
  refine wp_iload_n eX9_worstAccess_2 rfl ?_
  refine c_X9_273 eX9_worstAccess_3 (ct_mIsItem ?_)
  by_cases hb9 : 0 ≤ i ∧ i ≤ M 33 0 6 - 1
  · rw [if_pos hb9]
    refine c_X9_201 eX9_worstAccess_6 (ct_mIsWrong ?_)
    rcases hl with hl0 | hl1
    · rw [show mo_thr M 1 = 1 by unfold mo_thr; rw [if_pos hl0]]
      refine wp_if_eq eX9_worstAccess_9 (fun c9 => ?_) (fun c9 => ?_)
      · exact absurd c9 (by decide)
      · refine wp_iconst eX9_worstAccess_12 ?_
        refine wp_ireturn eX9_worstAccess_13 ?_
        exact k1 hl0
    · rw [show mo_thr M 1 = 0 by unfold mo_thr; rw [if_neg (by omega), if_neg (by decide)]]
      have hs0 := up_ms (f := 4) (v := 0) (hI hl1) (by decide) (by decide)
      have hs9 := hI hl1
      have hni := hs0.1.2.1
      have hnd := hs0.1.1
      have e6 := hs9.2.1.2
      have e5 := hs9.2.1.1
      refine wp_if_eq eX9_worstAccess_9 (fun c9 => ?_) (fun c9 => ?_)
      · refine wp_aload_n eX9_worstAccess_14 rfl ?_
        refine c_X9_242 eX9_worstAccess_15 (ct_layP hs0 (fun M1 hLY hML => ?_))
        have hq1 := QM.b0.ly hLY
        have hlen := hML.len hs0.1
        have hs1 := hLY.ms hs0
        refine wp_aload_n eX9_worstAccess_18 rfl ?_
        refine wp_iload_n eX9_worstAccess_19 rfl ?_
        refine c_X9_248 eX9_worstAccess_20 (ct_lay (x := i) (p := M1 42 0) (len := sp_S dk fr nd ni + sg * ln) hlen (by omega) hML.1.2 rfl (fun t a b => P_rng hs0.1 hML.2.1 hML.2.2 ⟨a, b⟩) (fun M2 g1 g2 g3 => ?_))
        have e27 : M2 33 0 27 = sp_S dk fr nd ni + sg * ln := by rw [g1 33 0 (by omega)]; exact hML.1.2
        have hq2 := hq1.ly (LY.of g1)
        have hs2 := (LY.of g1).ms hs1
        have hML2 : ML M2 dk fr nd ni sg ln := hML.rows (fun k9 h9 => g1 k9 0 (by omega))
        have e42 : M2 42 0 = M1 42 0 := g1 42 0 (by omega)
        refine wp_iconst eX9_worstAccess_23 ?_
        refine ist_2 eX9_worstAccess_24 ?_
        refine wp_iconst eX9_worstAccess_25 ?_
        refine ist_3 eX9_worstAccess_26 ?_
        exact lp_mWorst hs2 hML2 (by omega) (by rw [e42]; exact g2) (by rw [e42]; exact g3) (sp_S dk fr nd ni + sg * ln).toNat 0 0 (by omega) (by omega) (by omega) (k3 hl1 (by omega) M2 hq2)
      · exact absurd (by decide) c9
  · rw [if_neg hb9]
    refine c_X9_201 eX9_worstAccess_6 (ct_mIsWrong ?_)
    rcases hl with hl0 | hl1
    · rw [show mo_thr M 0 = 1 by unfold mo_thr; rw [if_pos hl0]]
      refine wp_if_eq eX9_worstAccess_9 (fun c9 => ?_) (fun c9 => ?_)
      · exact absurd c9 (by decide)
      · refine wp_iconst eX9_worstAccess_12 ?_
        refine wp_ireturn eX9_worstAccess_13 ?_
        exact k1 hl0
    · rw [show mo_thr M 0 = 2 by unfold mo_thr; rw [if_neg (by omega), if_pos rfl]]
      refine wp_if_eq eX9_worstAccess_9 (fun c9 => ?_) (fun c9 => ?_)
      · exact absurd c9 (by decide)
      · refine wp_iconst eX9_worstAccess_12 ?_
        refine wp_ireturn eX9_worstAccess_13 ?_
        exact k2 hl1 (by omega)
theorem ct_mWeight {G : bc_G} {M : bc_M} {post : bc_R → bc_M → Prop} {f : Int} {dk fr pop bnd : Int → Int} {nd ni sg ln : Int} (hI : M 33 0 3 = 1 → MS M dk fr pop bnd nd ni sg ln) (hl : M 33 0 3 = 0 ∨ M 33 0 3 = 1) (k1 : M 33 0 3 = 0 → post (.inr (some (vJ 0))) (bc_up M 33 0 4 1)) (k2 : M 33 0 3 = 1 → (f < 0 ∨ 99 < f) → post (.inr (some (vJ 0))) (bc_up M 33 0 4 2)) (k3 : M 33 0 3 = 1 → ¬ (f < 0 ∨ 99 < f) → ∀ M' : bc_M, QM M M' → post (.inr (some (vJ (sp_WS dk fr pop nd ni sg ln f)))) M') (ha : 0 ≤ M 33 0 2 ∧ M 33 0 2 ≤ 10) (hit : 0 ≤ M 33 0 6 ∧ M 33 0 6 ≤ 16) (hdi : 0 ≤ M 33 0 5 ∧ M 33 0 5 ≤ 4) (hcl : 0 ≤ M 33 0 7 ∧ M 33 0 7 ≤ 4) (h_f : -2147483648 ≤ f ∧ f < 2147483648 := by omega) : bc_Call G yX9_weight cX9_weight 2 (some .long) 12 0 [vR G 33 0, vI f] M post := by
  refine bc_enter (L := [some (vR G 33 0), some (vI f)]) (by decide) rfl rfl ?_
  refine wp_aload_n eX9_weight_0 rfl ?_
  refine wp_iload_n eX9_weight_1 rfl ?_
  refine wp_i2l eX9_weight_2 ?_
  refine wp_lconst0 eX9_weight_3 ?_
  refine wp_ldc2 (n := 99) eX9_weight_4 kc_X9_287 (by decide) ?_
  refine c_X9_75 eX9_weight_7 (ct_mIsIn ?_)
  by_cases hb9 : 0 ≤ f ∧ f ≤ 99
  · rw [if_pos hb9]
    refine c_X9_201 eX9_weight_10 (ct_mIsWrong ?_)
    rcases hl with hl0 | hl1
    · rw [show mo_thr M 1 = 1 by unfold mo_thr; rw [if_pos hl0]]
      refine wp_if_eq eX9_weight_13 (fun c13 => ?_) (fun c13 => ?_)
      · exact absurd c13 (by decide)
      · refine wp_lconst0 eX9_weight_16 ?_
        refine wp_goto eX9_weight_17 ?_
        refine wp_lreturn eX9_weight_25 ?_
        exact k1 hl0
    · rw [show mo_thr M 1 = 0 by unfold mo_thr; rw [if_neg (by omega), if_neg (by decide)]]
      have hs0 := up_ms (f := 4) (v := 0) (hI hl1) (by decide) (by decide)
      have hs9 := hI hl1
      have hni := hs0.1.2.1
      have hnd := hs0.1.1
      have e6 := hs9.2.1.2
      have e5 := hs9.2.1.1
      refine wp_if_eq eX9_weight_13 (fun c13 => ?_) (fun c13 => ?_)
      · refine wp_aload_n eX9_weight_20 rfl ?_
        refine wp_iload_n eX9_weight_21 rfl ?_
        refine c_X9_321 eX9_weight_22 (ct_weightOf hs0 (f := f) (by omega) (fun M1 g1 g2 => ?_))
        refine wp_lreturn eX9_weight_25 ?_
        exact k3 hl1 (by omega) M1 (QM.b0.ly g1)
      · exact absurd (by decide) c13
  · rw [if_neg hb9]
    refine c_X9_201 eX9_weight_10 (ct_mIsWrong ?_)
    rcases hl with hl0 | hl1
    · rw [show mo_thr M 0 = 1 by unfold mo_thr; rw [if_pos hl0]]
      refine wp_if_eq eX9_weight_13 (fun c13 => ?_) (fun c13 => ?_)
      · exact absurd c13 (by decide)
      · refine wp_lconst0 eX9_weight_16 ?_
        refine wp_goto eX9_weight_17 ?_
        refine wp_lreturn eX9_weight_25 ?_
        exact k1 hl0
    · rw [show mo_thr M 0 = 2 by unfold mo_thr; rw [if_neg (by omega), if_pos rfl]]
      refine wp_if_eq eX9_weight_13 (fun c13 => ?_) (fun c13 => ?_)
      · exact absurd c13 (by decide)
      · refine wp_lconst0 eX9_weight_16 ?_
        refine wp_goto eX9_weight_17 ?_
        refine wp_lreturn eX9_weight_25 ?_
        exact k2 hl1 (by omega)
theorem ct_mClientCount {G : bc_G} {M : bc_M} {post : bc_R → bc_M → Prop} {dk fr pop bnd : Int → Int} {nd ni sg ln : Int} (hI : M 33 0 3 = 1 → MS M dk fr pop bnd nd ni sg ln) (hl : M 33 0 3 = 0 ∨ M 33 0 3 = 1) (k1 : M 33 0 3 = 0 → post (.inr (some (vI 0))) (bc_up M 33 0 4 1)) (k3 : M 33 0 3 = 1 → ∀ M' : bc_M, QM M M' → post (.inr (some (vI (M 33 0 7)))) M') (ha : 0 ≤ M 33 0 2 ∧ M 33 0 2 ≤ 10) (hit : 0 ≤ M 33 0 6 ∧ M 33 0 6 ≤ 16) (hdi : 0 ≤ M 33 0 5 ∧ M 33 0 5 ≤ 4) (hcl : 0 ≤ M 33 0 7 ∧ M 33 0 7 ≤ 4)  : bc_Call G yX9_clientCount cX9_clientCount 1 (some .int) 12 0 [vR G 33 0] M post := by
  refine bc_enter (L := [some (vR G 33 0)]) (by decide) rfl rfl ?_
  refine wp_aload_n eX9_clientCount_0 rfl ?_
  refine wp_iconst eX9_clientCount_1 ?_
  refine c_X9_201 eX9_clientCount_2 (ct_mIsWrong ?_)
  rcases hl with hl0 | hl1
  · rw [show mo_thr M 1 = 1 by unfold mo_thr; rw [if_pos hl0]]
    refine wp_if_eq eX9_clientCount_5 (fun c5 => ?_) (fun c5 => ?_)
    · exact absurd c5 (by decide)
    · refine wp_iconst eX9_clientCount_8 ?_
      refine wp_goto eX9_clientCount_9 ?_
      refine wp_ireturn eX9_clientCount_16 ?_
      exact k1 hl0
  · rw [show mo_thr M 1 = 0 by unfold mo_thr; rw [if_neg (by omega), if_neg (by decide)]]
    have hs0 := up_ms (f := 4) (v := 0) (hI hl1) (by decide) (by decide)
    have hs9 := hI hl1
    have hni := hs0.1.2.1
    have hnd := hs0.1.1
    have e6 := hs9.2.1.2
    have e5 := hs9.2.1.1
    refine wp_if_eq eX9_clientCount_5 (fun c5 => ?_) (fun c5 => ?_)
    · refine wp_aload_n eX9_clientCount_12 rfl ?_
      refine gf_X9_82 eX9_clientCount_13 ?_
      refine wp_ireturn eX9_clientCount_16 ?_
      rw [up_v, if_neg (by decide)]
      exact k3 hl1 _ QM.b0
    · exact absurd (by decide) c5
theorem ct_mClientValue {G : bc_G} {M : bc_M} {post : bc_R → bc_M → Prop} {c w : Int} {dk fr pop bnd : Int → Int} {nd ni sg ln : Int} (hI : M 33 0 3 = 1 → MS M dk fr pop bnd nd ni sg ln) (hl : M 33 0 3 = 0 ∨ M 33 0 3 = 1) (k1 : M 33 0 3 = 0 → post (.inr (some (vI 0))) (bc_up M 33 0 4 1)) (k2 : M 33 0 3 = 1 → (c < 0 ∨ M 33 0 7 ≤ c ∨ w < 0 ∨ 5 < w) → post (.inr (some (vI 0))) (bc_up M 33 0 4 2)) (k3 : M 33 0 3 = 1 → ¬ (c < 0 ∨ M 33 0 7 ≤ c ∨ w < 0 ∨ 5 < w) → ∀ M' : bc_M, QM M M' → post (.inr (some (vI (if w = 5 then M 36 0 c else mc M c w)))) M') (ha : 0 ≤ M 33 0 2 ∧ M 33 0 2 ≤ 10) (hit : 0 ≤ M 33 0 6 ∧ M 33 0 6 ≤ 16) (hdi : 0 ≤ M 33 0 5 ∧ M 33 0 5 ≤ 4) (hcl : 0 ≤ M 33 0 7 ∧ M 33 0 7 ≤ 4) (h_c : -2147483648 ≤ c ∧ c < 2147483648 := by omega) (h_w : -2147483648 ≤ w ∧ w < 2147483648 := by omega) : bc_Call G yX9_clientValue cX9_clientValue 3 (some .int) 12 0 [vR G 33 0, vI c, vI w] M post := by
  refine bc_enter (L := [some (vR G 33 0), some (vI c), some (vI w)]) (by decide) rfl rfl ?_
  refine wp_aload_n eX9_clientValue_0 rfl ?_
  refine wp_aload_n eX9_clientValue_1 rfl ?_
  refine wp_iload_n eX9_clientValue_2 rfl ?_
  refine c_X9_270 eX9_clientValue_3 (ct_mIsClient ?_)
  refine wp_if_eq eX9_clientValue_6 (fun c6 => ?_) (fun c6 => ?_) (by split <;> decide)
  · have g6 : ¬ (0 ≤ c ∧ c ≤ M 33 0 7 - 1) := by
      intro h9
      rw [if_pos h9] at c6
      exact absurd c6 (by decide)
    refine wp_iconst eX9_clientValue_25 ?_
    refine c_X9_201 eX9_clientValue_26 (ct_mIsWrong ?_)
    rcases hl with hl0 | hl1
    · rw [show mo_thr M 0 = 1 by unfold mo_thr; rw [if_pos hl0]]
      refine wp_if_eq eX9_clientValue_29 (fun c29 => ?_) (fun c29 => ?_)
      · exact absurd c29 (by decide)
      · refine wp_iconst eX9_clientValue_32 ?_
        refine wp_ireturn eX9_clientValue_33 ?_
        exact k1 hl0
    · rw [show mo_thr M 0 = 2 by unfold mo_thr; rw [if_neg (by omega), if_pos rfl]]
      refine wp_if_eq eX9_clientValue_29 (fun c29 => ?_) (fun c29 => ?_)
      · exact absurd c29 (by decide)
      · refine wp_iconst eX9_clientValue_32 ?_
        refine wp_ireturn eX9_clientValue_33 ?_
        exact k2 hl1 (by omega)
  · have g6 : 0 ≤ c ∧ c ≤ M 33 0 7 - 1 := by
      apply Decidable.byContradiction
      intro h9
      rw [if_neg h9] at c6
      exact absurd rfl c6
    refine wp_iload_n eX9_clientValue_9 rfl ?_
    refine wp_i2l eX9_clientValue_10 ?_
    refine wp_lconst0 eX9_clientValue_11 ?_
    refine wp_ldc2 (n := 5) eX9_clientValue_12 kc_X9_362 (by decide) ?_
    refine c_X9_75 eX9_clientValue_15 (ct_mIsIn ?_)
    refine wp_if_eq eX9_clientValue_18 (fun c18 => ?_) (fun c18 => ?_) (by split <;> decide)
    · have g18 : ¬ (0 ≤ w ∧ w ≤ 5) := by
        intro h9
        rw [if_pos h9] at c18
        exact absurd c18 (by decide)
      refine wp_iconst eX9_clientValue_25 ?_
      refine c_X9_201 eX9_clientValue_26 (ct_mIsWrong ?_)
      rcases hl with hl0 | hl1
      · rw [show mo_thr M 0 = 1 by unfold mo_thr; rw [if_pos hl0]]
        refine wp_if_eq eX9_clientValue_29 (fun c29 => ?_) (fun c29 => ?_)
        · exact absurd c29 (by decide)
        · refine wp_iconst eX9_clientValue_32 ?_
          refine wp_ireturn eX9_clientValue_33 ?_
          exact k1 hl0
      · rw [show mo_thr M 0 = 2 by unfold mo_thr; rw [if_neg (by omega), if_pos rfl]]
        refine wp_if_eq eX9_clientValue_29 (fun c29 => ?_) (fun c29 => ?_)
        · exact absurd c29 (by decide)
        · refine wp_iconst eX9_clientValue_32 ?_
          refine wp_ireturn eX9_clientValue_33 ?_
          exact k2 hl1 (by omega)
    · have g18 : 0 ≤ w ∧ w ≤ 5 := by
        apply Decidable.byContradiction
        intro h9
        rw [if_neg h9] at c18
        exact absurd rfl c18
      refine wp_iconst eX9_clientValue_21 ?_
      refine wp_goto eX9_clientValue_22 ?_
      refine c_X9_201 eX9_clientValue_26 (ct_mIsWrong ?_)
      rcases hl with hl0 | hl1
      · rw [show mo_thr M 1 = 1 by unfold mo_thr; rw [if_pos hl0]]
        refine wp_if_eq eX9_clientValue_29 (fun c29 => ?_) (fun c29 => ?_)
        · exact absurd c29 (by decide)
        · refine wp_iconst eX9_clientValue_32 ?_
          refine wp_ireturn eX9_clientValue_33 ?_
          exact k1 hl0
      · rw [show mo_thr M 1 = 0 by unfold mo_thr; rw [if_neg (by omega), if_neg (by decide)]]
        have hs0 := up_ms (f := 4) (v := 0) (hI hl1) (by decide) (by decide)
        have hs9 := hI hl1
        have hni := hs0.1.2.1
        have hnd := hs0.1.1
        have e6 := hs9.2.1.2
        have e5 := hs9.2.1.1
        refine wp_if_eq eX9_clientValue_29 (fun c29 => ?_) (fun c29 => ?_)
        · refine wp_iload_n eX9_clientValue_34 rfl ?_
          refine wp_iconst eX9_clientValue_35 ?_
          refine wp_icmp_ne eX9_clientValue_36 (fun c36 => ?_) (fun c36 => ?_)
          · refine wp_aload_n eX9_clientValue_48 rfl ?_
            refine wp_iload_n eX9_clientValue_49 rfl ?_
            refine wp_iload_n eX9_clientValue_50 rfl ?_
            refine c_X9_257 eX9_clientValue_51 (ct_ofClient (by omega) (by omega) ?_)
            rw [up_kne (by decide), show M 34 0 (54 + 38 * c + w) = mc M c w from rfl]
            refine wp_ireturn eX9_clientValue_54 ?_
            first
            | (rw [if_pos (by omega)] at k3; rw [up_kne (by decide)]; exact k3 hl1 (by omega) _ QM.b0)
            | (rw [if_neg (by omega)] at k3; exact k3 hl1 (by omega) _ QM.b0)
          · refine wp_aload_n eX9_clientValue_39 rfl ?_
            refine gf_X9_16 eX9_clientValue_40 ?_
            refine wp_iload_n eX9_clientValue_43 rfl ?_
            refine al_36 eX9_clientValue_44 ?_
            refine wp_goto eX9_clientValue_45 ?_
            refine wp_ireturn eX9_clientValue_54 ?_
            first
            | (rw [if_pos (by omega)] at k3; rw [up_kne (by decide)]; exact k3 hl1 (by omega) _ QM.b0)
            | (rw [if_neg (by omega)] at k3; exact k3 hl1 (by omega) _ QM.b0)
        · exact absurd (by decide) c29
theorem ct_mErrorPosition {G : bc_G} {M : bc_M} {post : bc_R → bc_M → Prop} (k : post (.inr (some (vI (M 33 0 18)))) (bc_up M 33 0 4 0)) : bc_Call G yX9_errorPosition cX9_errorPosition 1 (some .int) 12 0 [vR G 33 0] M post := by
  refine bc_enter (L := [some (vR G 33 0)]) (by decide) rfl rfl ?_
  refine wp_aload_n eX9_errorPosition_0 rfl ?_
  refine wp_iconst eX9_errorPosition_1 ?_
  refine pf_X9_65 eX9_errorPosition_2 ?_
  refine wp_aload_n eX9_errorPosition_5 rfl ?_
  refine gf_X9_25 eX9_errorPosition_6 ?_
  refine wp_ireturn eX9_errorPosition_9 ?_
  rw [up_v, if_neg (by decide)]
  exact k
