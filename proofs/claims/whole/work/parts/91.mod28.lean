theorem ct_perSlot {G : bc_G} {M : bc_M} {post : bc_R → bc_M → Prop} {a : Int} (ha : -2147483648 ≤ a ∧ a < 2147483648) (hc : 1 ≤ M 17 0 0 ∧ M 17 0 0 < 2147483648) (k : post (.inr (some (.double (dqt a (M 17 0 0))))) M) : bc_Call G yX8_perSlot cX8_perSlot 3 (some .double) 5 0 [vR G 1 0, vI a] M post := by
  refine bc_enter (L := [some (vR G 1 0), some (vI a), none]) (by decide) rfl rfl ?_
  refine wp_aload_n eX8_perSlot_0 rfl ?_
  refine gf_X8_51 eX8_perSlot_1 ?_
  refine gf_X8_167 eX8_perSlot_4 ?_
  refine ist_2 eX8_perSlot_7 ?_
  refine wp_iload_n eX8_perSlot_8 rfl ?_
  refine wp_if_le eX8_perSlot_9 (fun c9 => ?_) (fun c9 => ?_)
  · omega
  · refine wp_iload_n eX8_perSlot_12 rfl ?_
    refine wp_i2d eX8_perSlot_13 ?_
    refine wp_iload_n eX8_perSlot_14 rfl ?_
    refine wp_i2d eX8_perSlot_15 ?_
    refine wp_ddiv eX8_perSlot_16 (dqt_n (by omega) (by omega)) ?_
    refine wp_goto eX8_perSlot_17 ?_
    refine wp_dreturn eX8_perSlot_21 ?_
    exact k
theorem ct_share {G : bc_G} {M : bc_M} {post : bc_R → bc_M → Prop} {n : Int} {i : Int} (h_i : -2147483648 ≤ i ∧ i < 2147483648) (hl : M 1 0 3 = 0 ∨ M 1 0 3 = 1) (hI : M 1 0 3 = 1 → LI M n) (k1 : M 1 0 3 = 0 → post (.inl "java/lang/IllegalStateException") M) (k2 : M 1 0 3 = 1 → (i < 0 ∨ M 6 1 3 ≤ i) → post (.inl "java/lang/IllegalArgumentException") M) (k3 : M 1 0 3 = 1 → ¬ ((i < 0 ∨ M 6 1 3 ≤ i)) → post (.inr (some (.double (dqt (M 19 0 i) (M 17 0 0))))) M) : bc_Call G yX8_share cX8_share 2 (some .double) 9 2 [vR G 1 0, vI i] M post := by
  refine bc_enter (L := [some (vR G 1 0), some (vI i)]) (by decide) rfl rfl ?_
  refine wp_aload_n eX8_share_0 rfl ?_
  refine cx_X8_125 eX8_share_1 (ct_needCarousel k1 (fun hc0 => ?_))
  have hL1 : M 1 0 3 = 1 := by omega
  obtain ⟨hsi, hbr, hhn, hhr, hri⟩ := hI hL1
  have hsm := hsi.1
  have hni := hsm.1.2.1
  have hnd := hsm.1.1
  have hls := hsi.2.2.1
  have hpv := BR.pv hsm.1 hbr
  refine wp_aload_n eX8_share_4 rfl ?_
  refine wp_iload_n eX8_share_5 rfl ?_
  refine cx_X8_131 eX8_share_6 (ct_needItem (fun h => k2 hL1 (by omega)) (fun g6a g6b => ?_))
  refine wp_aload_n eX8_share_9 rfl ?_
  refine wp_aload_n eX8_share_10 rfl ?_
  refine gf_X8_51 eX8_share_11 ?_
  refine gf_X8_192 eX8_share_14 ?_
  refine wp_iload_n eX8_share_17 rfl ?_
  refine al_19 eX8_share_18 ?_
  refine c_X8_209 eX8_share_19 (ct_perSlot (by have := (hpv.1.2.2.2.2.2 i (by omega) (by omega)).1; omega) (by have := hpv.1.1; omega) ?_)
  refine wp_dreturn eX8_share_22 ?_
  exact k3 hL1 (by omega)
theorem ct_meanAccess {G : bc_G} {M : bc_M} {post : bc_R → bc_M → Prop} {n : Int} {i : Int} (h_i : -2147483648 ≤ i ∧ i < 2147483648) (hl : M 1 0 3 = 0 ∨ M 1 0 3 = 1) (hI : M 1 0 3 = 1 → LI M n) (k1 : M 1 0 3 = 0 → post (.inl "java/lang/IllegalStateException") M) (k2 : M 1 0 3 = 1 → (i < 0 ∨ M 6 1 3 ≤ i) → post (.inl "java/lang/IllegalArgumentException") M) (k3 : M 1 0 3 = 1 → ¬ ((i < 0 ∨ M 6 1 3 ≤ i)) → post (.inr (some (.double (dqt (pg_ws M 0 i) (M 17 0 0))))) M) : bc_Call G yX8_meanAccess cX8_meanAccess 2 (some .double) 9 2 [vR G 1 0, vI i] M post := by
  refine bc_enter (L := [some (vR G 1 0), some (vI i)]) (by decide) rfl rfl ?_
  refine wp_aload_n eX8_meanAccess_0 rfl ?_
  refine cx_X8_125 eX8_meanAccess_1 (ct_needCarousel k1 (fun hc0 => ?_))
  have hL1 : M 1 0 3 = 1 := by omega
  obtain ⟨hsi, hbr, hhn, hhr, hri⟩ := hI hL1
  have hsm := hsi.1
  have hni := hsm.1.2.1
  have hnd := hsm.1.1
  have hls := hsi.2.2.1
  have hpv := BR.pv hsm.1 hbr
  refine wp_aload_n eX8_meanAccess_4 rfl ?_
  refine wp_iload_n eX8_meanAccess_5 rfl ?_
  refine cx_X8_131 eX8_meanAccess_6 (ct_needItem (fun h => k2 hL1 (by omega)) (fun g6a g6b => ?_))
  refine wp_aload_n eX8_meanAccess_9 rfl ?_
  refine wp_aload_n eX8_meanAccess_10 rfl ?_
  refine gf_X8_51 eX8_meanAccess_11 ?_
  refine wp_iload_n eX8_meanAccess_14 rfl ?_
  refine c_X8_228 eX8_meanAccess_15 (ct_waitSum (by omega) hpv.1 (by omega) hpv.2 ?_)
  have hwr := pg_ws_rng hpv.1 (i := i) (by omega)
  refine c_X8_209 eX8_meanAccess_18 (ct_perSlot (by omega) (by have := hpv.1.1; omega) ?_)
  refine wp_dreturn eX8_meanAccess_21 ?_
  exact k3 hL1 (by omega)
theorem ct_mShare {G : bc_G} {M : bc_M} {post : bc_R → bc_M → Prop} {i : Int} {dk fr pop bnd : Int → Int} {nd ni sg ln : Int} (hI : M 33 0 3 = 1 → MS M dk fr pop bnd nd ni sg ln) (hl : M 33 0 3 = 0 ∨ M 33 0 3 = 1) (k1 : M 33 0 3 = 0 → post (.inr (some (.double FP.dconst0))) (bc_up M 33 0 4 1)) (k2 : M 33 0 3 = 1 → (i < 0 ∨ M 33 0 6 ≤ i) → post (.inr (some (.double FP.dconst0))) (bc_up M 33 0 4 2)) (k3 : M 33 0 3 = 1 → ¬ (i < 0 ∨ M 33 0 6 ≤ i) → ∀ M' : bc_M, QM M M' → post (.inr (some (.double (dqt (fr (dk i)) (sp_S dk fr nd ni + sg * ln))))) M') (ha : 0 ≤ M 33 0 2 ∧ M 33 0 2 ≤ 10) (hit : 0 ≤ M 33 0 6 ∧ M 33 0 6 ≤ 16) (hdi : 0 ≤ M 33 0 5 ∧ M 33 0 5 ≤ 4) (hcl : 0 ≤ M 33 0 7 ∧ M 33 0 7 ≤ 4) (h_i : -2147483648 ≤ i ∧ i < 2147483648 := by omega) : bc_Call G yX9_share cX9_share 2 (some .double) 12 0 [vR G 33 0, vI i] M post := by
  refine bc_enter (L := [some (vR G 33 0), some (vI i)]) (by decide) rfl rfl ?_
  refine wp_aload_n eX9_share_0 rfl ?_
  refine wp_aload_n eX9_share_1 rfl ?_
  refine wp_iload_n eX9_share_2 rfl ?_
  refine c_X9_273 eX9_share_3 (ct_mIsItem ?_)
  by_cases hb9 : 0 ≤ i ∧ i ≤ M 33 0 6 - 1
  · rw [if_pos hb9]
    refine c_X9_201 eX9_share_6 (ct_mIsWrong ?_)
    rcases hl with hl0 | hl1
    · rw [show mo_thr M 1 = 1 by unfold mo_thr; rw [if_pos hl0]]
      refine wp_if_eq eX9_share_9 (fun c9 => ?_) (fun c9 => ?_)
      · exact absurd c9 (by decide)
      · refine wp_dconst0 eX9_share_12 ?_
        refine wp_dreturn eX9_share_13 ?_
        exact k1 hl0
    · rw [show mo_thr M 1 = 0 by unfold mo_thr; rw [if_neg (by omega), if_neg (by decide)]]
      have hs0 := up_ms (f := 4) (v := 0) (hI hl1) (by decide) (by decide)
      have hs9 := hI hl1
      have hni := hs0.1.2.1
      have hnd := hs0.1.1
      have e6 := hs9.2.1.2
      have e5 := hs9.2.1.1
      refine wp_if_eq eX9_share_9 (fun c9 => ?_) (fun c9 => ?_)
      · refine wp_aload_n eX9_share_14 rfl ?_
        refine c_X9_242 eX9_share_15 (ct_layP hs0 (fun M1 hLY hML => ?_))
        have hq1 := QM.b0.ly hLY
        have hlen := hML.len hs0.1
        have hs1 := hLY.ms hs0
        refine wp_aload_n eX9_share_18 rfl ?_
        refine wp_iload_n eX9_share_19 rfl ?_
        refine c_X9_354 eX9_share_20 (ct_timesOf (p := M1 42 0) (len := sp_S dk fr nd ni + sg * ln) hlen (by omega) hML.1.2 rfl (fun t a b => P_rng hs0.1 hML.2.1 hML.2.2 ⟨a, b⟩) ?_)
        rw [(gap_eq hs0.1 spM_br hML.2.1 hML.2.2 (i := i) (by omega)).2, show spM dk fr nd ni sg ln 19 0 i = fr (dk i) from rfl]
        have hfi := hs0.1.2.2.2.2.1 (dk i) (hs0.1.2.2.2.2.2 i (by omega) (by omega)).1 (hs0.1.2.2.2.2.2 i (by omega) (by omega)).2
        refine wp_i2d eX9_share_23 ?_
        refine wp_aload_n eX9_share_24 rfl ?_
        refine gf_X9_231 eX9_share_25 ?_
        rw [hML.1.2]
        refine wp_i2d eX9_share_28 ?_
        refine wp_ddiv eX9_share_29 (dqt_n (by omega) (by omega)) ?_
        refine wp_dreturn eX9_share_30 ?_
        exact k3 hl1 (by omega) M1 hq1
      · exact absurd (by decide) c9
  · rw [if_neg hb9]
    refine c_X9_201 eX9_share_6 (ct_mIsWrong ?_)
    rcases hl with hl0 | hl1
    · rw [show mo_thr M 0 = 1 by unfold mo_thr; rw [if_pos hl0]]
      refine wp_if_eq eX9_share_9 (fun c9 => ?_) (fun c9 => ?_)
      · exact absurd c9 (by decide)
      · refine wp_dconst0 eX9_share_12 ?_
        refine wp_dreturn eX9_share_13 ?_
        exact k1 hl0
    · rw [show mo_thr M 0 = 2 by unfold mo_thr; rw [if_neg (by omega), if_pos rfl]]
      refine wp_if_eq eX9_share_9 (fun c9 => ?_) (fun c9 => ?_)
      · exact absurd c9 (by decide)
      · refine wp_dconst0 eX9_share_12 ?_
        refine wp_dreturn eX9_share_13 ?_
        exact k2 hl1 (by omega)
def mo_sm (W : Int → Int) : Nat → Int → Int → Int
  | 0, _, w => w
  | n + 1, t, w => mo_sm W n (t + 1) (w + W t)
theorem mo_sm_rng {W : Int → Int} (hW : ∀ t, 0 ≤ W t ∧ W t ≤ 9000) : ∀ (n : Nat) (t w : Int), 0 ≤ w → 0 ≤ mo_sm W n t w ∧ mo_sm W n t w ≤ w + n * 9000
  | 0, _, w, h => by simp only [mo_sm]; omega
  | n + 1, t, w, h => by
    simp only [mo_sm]
    have := hW t
    have := mo_sm_rng hW n (t + 1) (w + W t) (by omega)
    omega
theorem lp_mMean {G : bc_G} {M : bc_M} {post : bc_R → bc_M → Prop} {dk fr pop bnd : Int → Int} {nd ni sg ln i : Int} (hs : MS M dk fr pop bnd nd ni sg ln) (hML : ML M dk fr nd ni sg ln) (hi : 0 ≤ i ∧ i < ni) (e43 : ∀ t, 0 ≤ t → t < sp_S dk fr nd ni + sg * ln → M 43 0 t = sp_far (M 42 0) i (sp_S dk fr nd ni + sg * ln) t) (e44 : ∀ t, 0 ≤ t → t < sp_S dk fr nd ni + sg * ln → M 44 0 t = sp_far (M 42 0) (-3) (sp_S dk fr nd ni + sg * ln) t) : ∀ (n : Nat) (t w : Int) (h1 : t + n = sp_S dk fr nd ni + sg * ln) (h2 : 0 ≤ t) (hw : 0 ≤ w ∧ w ≤ 9000 * t) (k : post (.inr (some (.double (dqt (mo_sm (sW dk fr nd ni sg ln i) n t w) (sp_S dk fr nd ni + sg * ln))))) M), bc_W G RX9 cX9_meanAccess 5 (some .double) 12 0 0 28 [some (vR G 33 0), some (vI i), some (vJ w), none, some (vI t)] [] M post := by
  intro n
  induction n with
  | zero =>
    intro t w h1 h2 hw k
    have hlen := hML.len hs.1
    refine wp_iload eX9_meanAccess_28 rfl ?_
    refine wp_aload_n eX9_meanAccess_30 rfl ?_
    refine gf_X9_231 eX9_meanAccess_31 ?_
    rw [hML.1.2]
    refine wp_icmp_ge eX9_meanAccess_34 (fun c34 => ?_) (fun c34 => ?_)
    · simp only [mo_sm] at k
      refine wp_lload_n eX9_meanAccess_53 rfl ?_
      refine wp_l2d eX9_meanAccess_54 ?_
      rw [fp_l2d (by omega)]
      refine wp_aload_n eX9_meanAccess_55 rfl ?_
      refine gf_X9_231 eX9_meanAccess_56 ?_
      rw [hML.1.2]
      refine wp_i2d eX9_meanAccess_59 ?_
      refine wp_ddiv eX9_meanAccess_60 (dqt_n (by omega) (by omega)) ?_
      refine wp_dreturn eX9_meanAccess_61 ?_
      exact k
    · omega
  | succ n ih =>
    intro t w h1 h2 hw k
    have hlen := hML.len hs.1
    refine wp_iload eX9_meanAccess_28 rfl ?_
    refine wp_aload_n eX9_meanAccess_30 rfl ?_
    refine gf_X9_231 eX9_meanAccess_31 ?_
    rw [hML.1.2]
    refine wp_icmp_ge eX9_meanAccess_34 (fun c34 => ?_) (fun c34 => ?_)
    · omega
    · simp only [mo_sm] at k
      refine wp_lload_n eX9_meanAccess_37 rfl ?_
      refine wp_aload_n eX9_meanAccess_38 rfl ?_
      refine wp_iload eX9_meanAccess_39 rfl ?_
      refine c_X9_251 eX9_meanAccess_41 (ct_accessAt hlen hML.1.2 hs.2.2.2.2.1.1 hs.2.2.2.2.1.2 hs.1.2.2.1 hs.1.2.2.2.1 e43 e44 (t := t) (by omega) ?_)
      rw [(acc_at hs.1 hML.2.1 hML.2.2 hi ⟨h2, by omega⟩).1, show pg_wait (spM dk fr nd ni sg ln) 0 i t = sW dk fr nd ni sg ln i t from rfl]
      have hwr := (sW_rng (t := t) hs.1 hi).1
      refine wp_i2l eX9_meanAccess_44 ?_
      refine wp_ladd eX9_meanAccess_45 ?_
      refine lst_2 eX9_meanAccess_46 ?_
      refine inc_4 eX9_meanAccess_47 ?_
      refine wp_goto eX9_meanAccess_50 ?_
      exact ih (t + 1) _ (by omega) (by omega) (by omega) k
theorem ct_mMeanAccess {G : bc_G} {M : bc_M} {post : bc_R → bc_M → Prop} {i : Int} {dk fr pop bnd : Int → Int} {nd ni sg ln : Int} (hI : M 33 0 3 = 1 → MS M dk fr pop bnd nd ni sg ln) (hl : M 33 0 3 = 0 ∨ M 33 0 3 = 1) (k1 : M 33 0 3 = 0 → post (.inr (some (.double FP.dconst0))) (bc_up M 33 0 4 1)) (k2 : M 33 0 3 = 1 → (i < 0 ∨ M 33 0 6 ≤ i) → post (.inr (some (.double FP.dconst0))) (bc_up M 33 0 4 2)) (k3 : M 33 0 3 = 1 → ¬ (i < 0 ∨ M 33 0 6 ≤ i) → ∀ M' : bc_M, QM M M' → post (.inr (some (.double (dqt (mo_sm (sW dk fr nd ni sg ln i) (sp_S dk fr nd ni + sg * ln).toNat 0 0) (sp_S dk fr nd ni + sg * ln))))) M') (ha : 0 ≤ M 33 0 2 ∧ M 33 0 2 ≤ 10) (hit : 0 ≤ M 33 0 6 ∧ M 33 0 6 ≤ 16) (hdi : 0 ≤ M 33 0 5 ∧ M 33 0 5 ≤ 4) (hcl : 0 ≤ M 33 0 7 ∧ M 33 0 7 ≤ 4) (h_i : -2147483648 ≤ i ∧ i < 2147483648 := by omega) : bc_Call G yX9_meanAccess cX9_meanAccess 5 (some .double) 12 0 [vR G 33 0, vI i] M post := by
  refine bc_enter (L := [some (vR G 33 0), some (vI i), none, none, none]) (by decide) rfl rfl ?_
  refine wp_aload_n eX9_meanAccess_0 rfl ?_
  refine wp_aload_n eX9_meanAccess_1 rfl ?_
  refine wp_iload_n eX9_meanAccess_2 rfl ?_
  refine c_X9_273 eX9_meanAccess_3 (ct_mIsItem ?_)
  by_cases hb9 : 0 ≤ i ∧ i ≤ M 33 0 6 - 1
  · rw [if_pos hb9]
    refine c_X9_201 eX9_meanAccess_6 (ct_mIsWrong ?_)
    rcases hl with hl0 | hl1
    · rw [show mo_thr M 1 = 1 by unfold mo_thr; rw [if_pos hl0]]
      refine wp_if_eq eX9_meanAccess_9 (fun c9 => ?_) (fun c9 => ?_)
      · exact absurd c9 (by decide)
      · refine wp_dconst0 eX9_meanAccess_12 ?_
        refine wp_dreturn eX9_meanAccess_13 ?_
        exact k1 hl0
    · rw [show mo_thr M 1 = 0 by unfold mo_thr; rw [if_neg (by omega), if_neg (by decide)]]
      have hs0 := up_ms (f := 4) (v := 0) (hI hl1) (by decide) (by decide)
      have hs9 := hI hl1
      have hni := hs0.1.2.1
      have hnd := hs0.1.1
      have e6 := hs9.2.1.2
      have e5 := hs9.2.1.1
      refine wp_if_eq eX9_meanAccess_9 (fun c9 => ?_) (fun c9 => ?_)
      · refine wp_aload_n eX9_meanAccess_14 rfl ?_
        refine c_X9_242 eX9_meanAccess_15 (ct_layP hs0 (fun M1 hLY hML => ?_))
        have hq1 := QM.b0.ly hLY
        have hlen := hML.len hs0.1
        have hs1 := hLY.ms hs0
        refine wp_aload_n eX9_meanAccess_18 rfl ?_
        refine wp_iload_n eX9_meanAccess_19 rfl ?_
        refine c_X9_248 eX9_meanAccess_20 (ct_lay (x := i) (p := M1 42 0) (len := sp_S dk fr nd ni + sg * ln) hlen (by omega) hML.1.2 rfl (fun t a b => P_rng hs0.1 hML.2.1 hML.2.2 ⟨a, b⟩) (fun M2 g1 g2 g3 => ?_))
        have e27 : M2 33 0 27 = sp_S dk fr nd ni + sg * ln := by rw [g1 33 0 (by omega)]; exact hML.1.2
        have hq2 := hq1.ly (LY.of g1)
        have hs2 := (LY.of g1).ms hs1
        have hML2 : ML M2 dk fr nd ni sg ln := hML.rows (fun k9 h9 => g1 k9 0 (by omega))
        have e42 : M2 42 0 = M1 42 0 := g1 42 0 (by omega)
        refine wp_lconst0 eX9_meanAccess_23 ?_
        refine lst_2 eX9_meanAccess_24 ?_
        refine wp_iconst eX9_meanAccess_25 ?_
        refine ist_4 eX9_meanAccess_26 ?_
        exact lp_mMean hs2 hML2 (by omega) (by rw [e42]; exact g2) (by rw [e42]; exact g3) (sp_S dk fr nd ni + sg * ln).toNat 0 0 (by omega) (by omega) (by omega) (k3 hl1 (by omega) M2 hq2)
      · exact absurd (by decide) c9
  · rw [if_neg hb9]
    refine c_X9_201 eX9_meanAccess_6 (ct_mIsWrong ?_)
    rcases hl with hl0 | hl1
    · rw [show mo_thr M 0 = 1 by unfold mo_thr; rw [if_pos hl0]]
      refine wp_if_eq eX9_meanAccess_9 (fun c9 => ?_) (fun c9 => ?_)
      · exact absurd c9 (by decide)
      · refine wp_dconst0 eX9_meanAccess_12 ?_
        refine wp_dreturn eX9_meanAccess_13 ?_
        exact k1 hl0
    · rw [show mo_thr M 0 = 2 by unfold mo_thr; rw [if_neg (by omega), if_pos rfl]]
      refine wp_if_eq eX9_meanAccess_9 (fun c9 => ?_) (fun c9 => ?_)
      · exact absurd c9 (by decide)
      · refine wp_dconst0 eX9_meanAccess_12 ?_
        refine wp_dreturn eX9_meanAccess_13 ?_
        exact k2 hl1 (by omega)
