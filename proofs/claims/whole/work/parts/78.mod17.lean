/-- what a question leaves of the model -/
def mqP : Nat → Int → Prop := fun k' j' => (k' = 33 ∨ (40 ≤ k' ∧ k' ≤ 50)) ∧ j' = 0
def QM (M M' : bc_M) : Prop := Fr mqP M M' ∧ (∀ f, f < 24 → f ≠ 4 → M' 33 0 f = M 33 0 f) ∧ M' 33 0 4 = 0
theorem QM.b0 {M : bc_M} : QM M (bc_up M 33 0 4 0) := ⟨Fr.up ⟨Or.inl rfl, rfl⟩, fun f _ h => by rw [up_v, if_neg h], by rw [up_v, if_pos rfl]⟩
theorem QM.ly {M M1 M2 : bc_M} (h : QM M M1) (h2 : LY M1 M2) : QM M M2 := ⟨Fr.tr h.1 (h2.1.mono (fun k j q => by unfold lyP at q; unfold mqP; omega)), fun f a b => (h2.2 f (by omega) (by omega)).trans (h.2.1 f a b), (h2.2 4 (by decide) (by decide)).trans h.2.2⟩
theorem mrM_o {M : bc_M} {k : Nat} {j : Int} (h1 : k ≠ 33) (h2 : k ≠ 35) : mrM M k j = M k j := by unfold mrM; rw [up_kne h1, row_kne h2]
theorem mrM_f {M : bc_M} {f : Int} (h : f ≠ 2) : mrM M 33 0 f = M 33 0 f := by unfold mrM; rw [up_v, if_neg h, row_kne (by decide)]
theorem mrM_ms {M : bc_M} {dk fr pop bnd : Int → Int} {nd ni sg ln : Int} (hs : MS M dk fr pop bnd nd ni sg ln) : MS (mrM M) dk fr pop bnd nd ni sg ln := by
  unfold MS at hs ⊢
  rw [mrM_f (by decide), mrM_f (by decide), mrM_o (by decide) (by decide)]
  exact hs
theorem MS.ix {M : bc_M} {dk fr pop bnd : Int → Int} {nd ni sg ln s l : Int} (hs : MS M dk fr pop bnd nd ni sg ln) (h1 : 0 ≤ s ∧ s ≤ 8) (h2 : 1 ≤ l ∧ l ≤ 4) : MS (bc_up (bc_up M 34 0 52 s) 34 0 53 l) dk fr pop bnd nd ni s l := by
  obtain ⟨a1, a2, a3, a4, a5, a6, a7⟩ := hs
  have e : ∀ q, q ≠ 52 → q ≠ 53 → bc_up (bc_up M 34 0 52 s) 34 0 53 l 34 0 q = M 34 0 q := fun q x y => by rw [up_v, if_neg y, up_v, if_neg x]
  refine ⟨a1.ix h1 h2, by rw [up_kne (by decide), up_kne (by decide)]; exact a2, fun q x y => ?_, fun q x y => ?_, ?_, fun q x y => ?_, a7⟩
  · rw [e _ (by omega) (by omega)]; exact a3 q x y
  · rw [e _ (by omega) (by omega)]; exact a4 q x y
  · exact ⟨by rw [up_v, if_neg (by decide), up_v, if_pos rfl], by rw [up_v, if_pos rfl]⟩
  · rw [e _ (by omega) (by omega), e _ (by omega) (by omega)]; exact a6 q x y
theorem ct_mSetIndex {G : bc_G} {M : bc_M} {post : bc_R → bc_M → Prop} {s l : Int} {dk fr pop bnd : Int → Int} {nd ni sg ln : Int} (hI : M 33 0 3 = 1 → MS M dk fr pop bnd nd ni sg ln) (hl : M 33 0 3 = 0 ∨ M 33 0 3 = 1) (k1 : M 33 0 3 = 0 → post (.inr (some (vI 0))) (bc_up M 33 0 4 1)) (k2 : M 33 0 3 = 1 → (s < 0 ∨ 8 < s ∨ l < 1 ∨ 4 < l) → post (.inr (some (vI 0))) (bc_up M 33 0 4 2)) (k3 : M 33 0 3 = 1 → ¬ (s < 0 ∨ 8 < s ∨ l < 1 ∨ 4 < l) → ∀ M' : bc_M, LY (bc_up (bc_up (mrM (bc_up M 33 0 4 0)) 34 0 52 s) 34 0 53 l) M' → post (.inr (some (vI (sp_S dk fr nd ni + s * l)))) M') (ha : 0 ≤ M 33 0 2 ∧ M 33 0 2 ≤ 10) (hit : 0 ≤ M 33 0 6 ∧ M 33 0 6 ≤ 16) (hdi : 0 ≤ M 33 0 5 ∧ M 33 0 5 ≤ 4) (hcl : 0 ≤ M 33 0 7 ∧ M 33 0 7 ≤ 4) (h_s : -2147483648 ≤ s ∧ s < 2147483648 := by omega) (h_l : -2147483648 ≤ l ∧ l < 2147483648 := by omega) : bc_Call G yX9_setIndex cX9_setIndex 3 (some .int) 12 0 [vR G 33 0, vI s, vI l] M post := by
  refine bc_enter (L := [some (vR G 33 0), some (vI s), some (vI l)]) (by decide) rfl rfl ?_
  refine wp_aload_n eX9_setIndex_0 rfl ?_
  refine wp_iload_n eX9_setIndex_1 rfl ?_
  refine wp_i2l eX9_setIndex_2 ?_
  refine wp_lconst0 eX9_setIndex_3 ?_
  refine wp_ldc2 (n := 8) eX9_setIndex_4 kc_X9_299 (by decide) ?_
  refine c_X9_75 eX9_setIndex_7 (ct_mIsIn ?_)
  refine wp_if_eq eX9_setIndex_10 (fun c10 => ?_) (fun c10 => ?_) (by split <;> decide)
  · have g10 : ¬ (0 ≤ s ∧ s ≤ 8) := by
      intro h9
      rw [if_pos h9] at c10
      exact absurd c10 (by decide)
    refine wp_iconst eX9_setIndex_29 ?_
    refine c_X9_201 eX9_setIndex_30 (ct_mIsWrong ?_)
    rcases hl with hl0 | hl1
    · rw [show mo_thr M 0 = 1 by unfold mo_thr; rw [if_pos hl0]]
      refine wp_if_eq eX9_setIndex_33 (fun c33 => ?_) (fun c33 => ?_)
      · exact absurd c33 (by decide)
      · refine wp_iconst eX9_setIndex_36 ?_
        refine wp_ireturn eX9_setIndex_37 ?_
        exact k1 hl0
    · rw [show mo_thr M 0 = 2 by unfold mo_thr; rw [if_neg (by omega), if_pos rfl]]
      refine wp_if_eq eX9_setIndex_33 (fun c33 => ?_) (fun c33 => ?_)
      · exact absurd c33 (by decide)
      · refine wp_iconst eX9_setIndex_36 ?_
        refine wp_ireturn eX9_setIndex_37 ?_
        exact k2 hl1 (by omega)
  · have g10 : 0 ≤ s ∧ s ≤ 8 := by
      apply Decidable.byContradiction
      intro h9
      rw [if_neg h9] at c10
      exact absurd rfl c10
    refine wp_iload_n eX9_setIndex_13 rfl ?_
    refine wp_i2l eX9_setIndex_14 ?_
    refine wp_lconst1 eX9_setIndex_15 ?_
    refine wp_ldc2 (n := 4) eX9_setIndex_16 kc_X9_301 (by decide) ?_
    refine c_X9_75 eX9_setIndex_19 (ct_mIsIn ?_)
    refine wp_if_eq eX9_setIndex_22 (fun c22 => ?_) (fun c22 => ?_) (by split <;> decide)
    · have g22 : ¬ (1 ≤ l ∧ l ≤ 4) := by
        intro h9
        rw [if_pos h9] at c22
        exact absurd c22 (by decide)
      refine wp_iconst eX9_setIndex_29 ?_
      refine c_X9_201 eX9_setIndex_30 (ct_mIsWrong ?_)
      rcases hl with hl0 | hl1
      · rw [show mo_thr M 0 = 1 by unfold mo_thr; rw [if_pos hl0]]
        refine wp_if_eq eX9_setIndex_33 (fun c33 => ?_) (fun c33 => ?_)
        · exact absurd c33 (by decide)
        · refine wp_iconst eX9_setIndex_36 ?_
          refine wp_ireturn eX9_setIndex_37 ?_
          exact k1 hl0
      · rw [show mo_thr M 0 = 2 by unfold mo_thr; rw [if_neg (by omega), if_pos rfl]]
        refine wp_if_eq eX9_setIndex_33 (fun c33 => ?_) (fun c33 => ?_)
        · exact absurd c33 (by decide)
        · refine wp_iconst eX9_setIndex_36 ?_
          refine wp_ireturn eX9_setIndex_37 ?_
          exact k2 hl1 (by omega)
    · have g22 : 1 ≤ l ∧ l ≤ 4 := by
        apply Decidable.byContradiction
        intro h9
        rw [if_neg h9] at c22
        exact absurd rfl c22
      refine wp_iconst eX9_setIndex_25 ?_
      refine wp_goto eX9_setIndex_26 ?_
      refine c_X9_201 eX9_setIndex_30 (ct_mIsWrong ?_)
      rcases hl with hl0 | hl1
      · rw [show mo_thr M 1 = 1 by unfold mo_thr; rw [if_pos hl0]]
        refine wp_if_eq eX9_setIndex_33 (fun c33 => ?_) (fun c33 => ?_)
        · exact absurd c33 (by decide)
        · refine wp_iconst eX9_setIndex_36 ?_
          refine wp_ireturn eX9_setIndex_37 ?_
          exact k1 hl0
      · rw [show mo_thr M 1 = 0 by unfold mo_thr; rw [if_neg (by omega), if_neg (by decide)]]
        have hs0 := up_ms (f := 4) (v := 0) (hI hl1) (by decide) (by decide)
        have hs9 := hI hl1
        have hni := hs0.1.2.1
        have hnd := hs0.1.1
        have e6 := hs9.2.1.2
        have e5 := hs9.2.1.1
        refine wp_if_eq eX9_setIndex_33 (fun c33 => ?_) (fun c33 => ?_)
        · refine wp_aload_n eX9_setIndex_38 rfl ?_
          refine c_X9_276 eX9_setIndex_39 (ct_mRemember (by rw [up_v, if_neg (by decide)]; exact ha) ?_)
          refine wp_aload_n eX9_setIndex_42 rfl ?_
          refine gf_X9_7 eX9_setIndex_43 ?_
          refine wp_bipush eX9_setIndex_46 ?_
          refine wp_iload_n eX9_setIndex_48 rfl ?_
          refine as_34 eX9_setIndex_49 ?_
          refine wp_aload_n eX9_setIndex_50 rfl ?_
          refine gf_X9_7 eX9_setIndex_51 ?_
          refine wp_bipush eX9_setIndex_54 ?_
          refine wp_iload_n eX9_setIndex_56 rfl ?_
          refine as_34 eX9_setIndex_57 ?_
          refine wp_aload_n eX9_setIndex_58 rfl ?_
          refine c_X9_242 eX9_setIndex_59 (ct_layP ((mrM_ms hs0).ix (by omega) (by omega)) (fun M1 hLY hML => ?_))
          refine wp_aload_n eX9_setIndex_62 rfl ?_
          refine gf_X9_231 eX9_setIndex_63 ?_
          refine wp_ireturn eX9_setIndex_66 ?_
          rw [hML.1.2]
          exact k3 hl1 (by omega) M1 hLY
        · exact absurd (by decide) c33
theorem ct_mRequest {G : bc_G} {M : bc_M} {post : bc_R → bc_M → Prop} {c i : Int} {dk fr pop bnd : Int → Int} {nd ni sg ln : Int} (hI : M 33 0 3 = 1 → MS M dk fr pop bnd nd ni sg ln) (hl : M 33 0 3 = 0 ∨ M 33 0 3 = 1) (k1 : M 33 0 3 = 0 → post (.inr (some (vI 0))) (bc_up M 33 0 4 1)) (k2 : M 33 0 3 = 1 → (c < 0 ∨ M 33 0 7 ≤ c ∨ i < 0 ∨ M 33 0 6 ≤ i) → post (.inr (some (vI 0))) (bc_up M 33 0 4 2)) (k3 : M 33 0 3 = 1 → ¬ (c < 0 ∨ M 33 0 7 ≤ c ∨ i < 0 ∨ M 33 0 6 ≤ i) → ∀ M1 M' : bc_M, LY (mrM (bc_up M 33 0 4 0)) M1 → RQ M1 M' c (qG (M 36 0 c) (M 37 0 c) ni pop dk fr (sW dk fr nd ni sg ln) (sL dk fr nd ni sg ln) (mc M c) i) (qr (M 36 0 c) (M 37 0 c) ni pop dk fr (mc M c) i) → post (.inr (some (vI (qR (sW dk fr nd ni sg ln) (mc M c) i)))) M') (ha : 0 ≤ M 33 0 2 ∧ M 33 0 2 ≤ 10) (hit : 0 ≤ M 33 0 6 ∧ M 33 0 6 ≤ 16) (hdi : 0 ≤ M 33 0 5 ∧ M 33 0 5 ≤ 4) (hcl : 0 ≤ M 33 0 7 ∧ M 33 0 7 ≤ 4) {n : Int} (hn : 0 ≤ n ∧ n ≤ 5000) (hcn : ∀ c, 0 ≤ c → c < M 33 0 7 → (0 ≤ M 36 0 c ∧ M 36 0 c ≤ 4) ∧ (0 ≤ M 37 0 c ∧ M 37 0 c ≤ 2) ∧ QI (mc M c) ni n) (h_c : -2147483648 ≤ c ∧ c < 2147483648 := by omega) (h_i : -2147483648 ≤ i ∧ i < 2147483648 := by omega) : bc_Call G yX9_request cX9_request 3 (some .int) 12 0 [vR G 33 0, vI c, vI i] M post := by
  refine bc_enter (L := [some (vR G 33 0), some (vI c), some (vI i)]) (by decide) rfl rfl ?_
  refine wp_aload_n eX9_request_0 rfl ?_
  refine wp_aload_n eX9_request_1 rfl ?_
  refine wp_iload_n eX9_request_2 rfl ?_
  refine c_X9_270 eX9_request_3 (ct_mIsClient ?_)
  refine wp_if_eq eX9_request_6 (fun c6 => ?_) (fun c6 => ?_) (by split <;> decide)
  · have g6 : ¬ (0 ≤ c ∧ c ≤ M 33 0 7 - 1) := by
      intro h9
      rw [if_pos h9] at c6
      exact absurd c6 (by decide)
    refine wp_iconst eX9_request_21 ?_
    refine c_X9_201 eX9_request_22 (ct_mIsWrong ?_)
    rcases hl with hl0 | hl1
    · rw [show mo_thr M 0 = 1 by unfold mo_thr; rw [if_pos hl0]]
      refine wp_if_eq eX9_request_25 (fun c25 => ?_) (fun c25 => ?_)
      · exact absurd c25 (by decide)
      · refine wp_iconst eX9_request_28 ?_
        refine wp_ireturn eX9_request_29 ?_
        exact k1 hl0
    · rw [show mo_thr M 0 = 2 by unfold mo_thr; rw [if_neg (by omega), if_pos rfl]]
      refine wp_if_eq eX9_request_25 (fun c25 => ?_) (fun c25 => ?_)
      · exact absurd c25 (by decide)
      · refine wp_iconst eX9_request_28 ?_
        refine wp_ireturn eX9_request_29 ?_
        exact k2 hl1 (by omega)
  · have g6 : 0 ≤ c ∧ c ≤ M 33 0 7 - 1 := by
      apply Decidable.byContradiction
      intro h9
      rw [if_neg h9] at c6
      exact absurd rfl c6
    refine wp_aload_n eX9_request_9 rfl ?_
    refine wp_iload_n eX9_request_10 rfl ?_
    refine c_X9_273 eX9_request_11 (ct_mIsItem ?_)
    refine wp_if_eq eX9_request_14 (fun c14 => ?_) (fun c14 => ?_) (by split <;> decide)
    · have g14 : ¬ (0 ≤ i ∧ i ≤ M 33 0 6 - 1) := by
        intro h9
        rw [if_pos h9] at c14
        exact absurd c14 (by decide)
      refine wp_iconst eX9_request_21 ?_
      refine c_X9_201 eX9_request_22 (ct_mIsWrong ?_)
      rcases hl with hl0 | hl1
      · rw [show mo_thr M 0 = 1 by unfold mo_thr; rw [if_pos hl0]]
        refine wp_if_eq eX9_request_25 (fun c25 => ?_) (fun c25 => ?_)
        · exact absurd c25 (by decide)
        · refine wp_iconst eX9_request_28 ?_
          refine wp_ireturn eX9_request_29 ?_
          exact k1 hl0
      · rw [show mo_thr M 0 = 2 by unfold mo_thr; rw [if_neg (by omega), if_pos rfl]]
        refine wp_if_eq eX9_request_25 (fun c25 => ?_) (fun c25 => ?_)
        · exact absurd c25 (by decide)
        · refine wp_iconst eX9_request_28 ?_
          refine wp_ireturn eX9_request_29 ?_
          exact k2 hl1 (by omega)
    · have g14 : 0 ≤ i ∧ i ≤ M 33 0 6 - 1 := by
        apply Decidable.byContradiction
        intro h9
        rw [if_neg h9] at c14
        exact absurd rfl c14
      refine wp_iconst eX9_request_17 ?_
      refine wp_goto eX9_request_18 ?_
      refine c_X9_201 eX9_request_22 (ct_mIsWrong ?_)
      rcases hl with hl0 | hl1
      · rw [show mo_thr M 1 = 1 by unfold mo_thr; rw [if_pos hl0]]
        refine wp_if_eq eX9_request_25 (fun c25 => ?_) (fun c25 => ?_)
        · exact absurd c25 (by decide)
        · refine wp_iconst eX9_request_28 ?_
          refine wp_ireturn eX9_request_29 ?_
          exact k1 hl0
      · rw [show mo_thr M 1 = 0 by unfold mo_thr; rw [if_neg (by omega), if_neg (by decide)]]
        have hs0 := up_ms (f := 4) (v := 0) (hI hl1) (by decide) (by decide)
        have hs9 := hI hl1
        have hni := hs0.1.2.1
        have hnd := hs0.1.1
        have e6 := hs9.2.1.2
        have e5 := hs9.2.1.1
        refine wp_if_eq eX9_request_25 (fun c25 => ?_) (fun c25 => ?_)
        · refine wp_aload_n eX9_request_30 rfl ?_
          refine c_X9_276 eX9_request_31 (ct_mRemember (by rw [up_v, if_neg (by decide)]; exact ha) ?_)
          refine wp_aload_n eX9_request_34 rfl ?_
          refine c_X9_242 eX9_request_35 (ct_layP (mrM_ms hs0) (fun M1 hLY hML => ?_))
          have e34 : M1 34 0 = M 34 0 := by rw [hLY.1 34 0 (by unfold lyP; omega), mrM_o (by decide) (by decide), up_kne (by decide)]
          have emc : mc M1 c = mc M c := by funext f; unfold mc; rw [e34]
          have eo : ∀ k, k = 36 ∨ k = 37 → M1 k 0 = M k 0 := fun k hk => by rw [hLY.1 k 0 (by unfold lyP; omega), mrM_o (by omega) (by omega), up_kne (by omega)]
          refine wp_aload_n eX9_request_38 rfl ?_
          refine wp_iload_n eX9_request_39 rfl ?_
          refine wp_iload_n eX9_request_40 rfl ?_
          refine c_X9_279 eX9_request_41 (ct_requests1 (hLY.ms (mrM_ms hs0)) hML (by omega) (by omega) ⟨by rw [eo 36 (by decide)], (hcn c (by omega) (by omega)).1⟩ ⟨by rw [eo 37 (by decide)], (hcn c (by omega) (by omega)).2.1⟩ (by rw [emc]; exact (hcn c (by omega) (by omega)).2.2) hn (fun M2 hR => ?_))
          rw [emc] at hR ⊢
          refine wp_ireturn eX9_request_44 ?_
          exact k3 hl1 (by omega) M1 M2 hLY hR
        · exact absurd (by decide) c25
theorem ct_mRepair {G : bc_G} {M : bc_M} {post : bc_R → bc_M → Prop} {dk fr pop bnd : Int → Int} {nd ni sg ln : Int} (hI : M 33 0 3 = 1 → MS M dk fr pop bnd nd ni sg ln) (hl : M 33 0 3 = 0 ∨ M 33 0 3 = 1) (k1 : M 33 0 3 = 0 → post (.inr (some (vI 0))) (bc_up M 33 0 4 1)) (k3 : M 33 0 3 = 1 → ∀ M' : bc_M, LD (mrM (bc_up M 33 0 4 0)) M' (md fr bnd nd ni sg ln 60 0 dk).2 → post (.inr (some (vI ((md fr bnd nd ni sg ln 60 0 dk).1)))) M') (ha : 0 ≤ M 33 0 2 ∧ M 33 0 2 ≤ 10) (hit : 0 ≤ M 33 0 6 ∧ M 33 0 6 ≤ 16) (hdi : 0 ≤ M 33 0 5 ∧ M 33 0 5 ≤ 4) (hcl : 0 ≤ M 33 0 7 ∧ M 33 0 7 ≤ 4)  : bc_Call G yX9_repair cX9_repair 1 (some .int) 13 0 [vR G 33 0] M post := by
  refine bc_enter (L := [some (vR G 33 0)]) (by decide) rfl rfl ?_
  refine wp_aload_n eX9_repair_0 rfl ?_
  refine wp_iconst eX9_repair_1 ?_
  refine c_X9_201 eX9_repair_2 (ct_mIsWrong ?_)
  rcases hl with hl0 | hl1
  · rw [show mo_thr M 1 = 1 by unfold mo_thr; rw [if_pos hl0]]
    refine wp_if_eq eX9_repair_5 (fun c5 => ?_) (fun c5 => ?_)
    · exact absurd c5 (by decide)
    · refine wp_iconst eX9_repair_8 ?_
      refine wp_ireturn eX9_repair_9 ?_
      exact k1 hl0
  · rw [show mo_thr M 1 = 0 by unfold mo_thr; rw [if_neg (by omega), if_neg (by decide)]]
    have hs0 := up_ms (f := 4) (v := 0) (hI hl1) (by decide) (by decide)
    have hs9 := hI hl1
    have hni := hs0.1.2.1
    have hnd := hs0.1.1
    have e6 := hs9.2.1.2
    have e5 := hs9.2.1.1
    refine wp_if_eq eX9_repair_5 (fun c5 => ?_) (fun c5 => ?_)
    · refine wp_aload_n eX9_repair_10 rfl ?_
      refine c_X9_276 eX9_repair_11 (ct_mRemember (by rw [up_v, if_neg (by decide)]; exact ha) ?_)
      refine wp_aload_n eX9_repair_14 rfl ?_
      refine c_X9_312 eX9_repair_15 (ct_repairs (mrM_ms hs0) (fun M1 hD hms => ?_))
      refine wp_ireturn eX9_repair_18 ?_
      exact k3 hl1 M1 hD
    · exact absurd (by decide) c5
theorem cpF_z {g h : Int → Int} : cpF g h 0 0 = g := cpF0
theorem lp_mUndo {G : bc_G} {M : bc_M} {post : bc_R → bc_M → Prop} {g h : Int → Int} {a : Int} (ea : M 33 0 2 = a) (hav : 0 ≤ a ∧ a < 10) (eh : ∀ q, 0 ≤ q → q < 206 → M 35 0 (206 * a + q) = h q) : ∀ (n : Nat) (v : Int) (h1 : v + n = 206) (h2 : 0 ≤ v) (k : post (.inr (some (vI a))) (bc_row M 34 0 (cpF g h 0 206))), bc_W G RX9 cX9_undo 2 (some .int) 12 0 0 32 [some (vR G 33 0), some (vI v)] [] (bc_row M 34 0 (cpF g h 0 v)) post := by
  intro n
  induction n with
  | zero =>
    intro v h1 h2 k
    refine wp_iload_n eX9_undo_32 rfl ?_
    refine wp_sipush eX9_undo_33 ?_
    refine wp_icmp_ge eX9_undo_36 (fun c36 => ?_) (fun c36 => ?_)
    · have hv : v = 206 := by omega
      subst hv
      refine wp_aload_n eX9_undo_66 rfl ?_
      refine gf_X9_198 eX9_undo_67 ?_
      rw [row_kne (by decide), ea]
      refine wp_ireturn eX9_undo_70 ?_
      exact k
    · omega
  | succ n ih =>
    intro v h1 h2 k
    refine wp_iload_n eX9_undo_32 rfl ?_
    refine wp_sipush eX9_undo_33 ?_
    refine wp_icmp_ge eX9_undo_36 (fun c36 => ?_) (fun c36 => ?_)
    · omega
    · refine wp_aload_n eX9_undo_39 rfl ?_
      refine gf_X9_7 eX9_undo_40 ?_
      refine wp_iload_n eX9_undo_43 rfl ?_
      refine wp_aload_n eX9_undo_44 rfl ?_
      refine gf_X9_13 eX9_undo_45 ?_
      refine wp_sipush eX9_undo_48 ?_
      refine wp_aload_n eX9_undo_51 rfl ?_
      refine gf_X9_198 eX9_undo_52 ?_
      rw [row_kne (by decide), ea]
      refine wp_imul eX9_undo_55 ?_
      refine wp_iload_n eX9_undo_56 rfl ?_
      refine wp_iadd eX9_undo_57 ?_
      refine al_35 eX9_undo_58 ?_
      rw [row_kne (by decide), eh v h2 (by omega)]
      refine as_34 eX9_undo_59 ?_
      refine inc_1 eX9_undo_60 ?_
      refine wp_goto eX9_undo_63 ?_
      rw [up_row]
      have e9 := cpF_st (g := g) (h := h) (b := 0) (n := v) h2
      rw [Int.zero_add] at e9
      rw [e9]
      exact ih (v + 1) (by omega) (by omega) k
theorem ct_mUndo {G : bc_G} {M : bc_M} {post : bc_R → bc_M → Prop} (hl : M 33 0 3 = 0 ∨ M 33 0 3 = 1) (k1 : M 33 0 3 = 0 → post (.inr (some (vI 0))) (bc_up M 33 0 4 1)) (k3 : M 33 0 3 = 1 → M 33 0 2 ≠ 0 → post (.inr (some (vI (M 33 0 2 - 1)))) (bc_row (bc_up (bc_up M 33 0 4 0) 33 0 2 (M 33 0 2 - 1)) 34 0 (cpF (M 34 0) (fun q => M 35 0 (206 * (M 33 0 2 - 1) + q)) 0 206))) (ha : 0 ≤ M 33 0 2 ∧ M 33 0 2 ≤ 10) (hit : 0 ≤ M 33 0 6 ∧ M 33 0 6 ≤ 16) (hdi : 0 ≤ M 33 0 5 ∧ M 33 0 5 ≤ 4) (hcl : 0 ≤ M 33 0 7 ∧ M 33 0 7 ≤ 4) (k3a : M 33 0 3 = 1 → M 33 0 2 = 0 → post (.inr (some (vI (-2)))) (bc_up M 33 0 4 0))  : bc_Call G yX9_undo cX9_undo 2 (some .int) 12 0 [vR G 33 0] M post := by
  refine bc_enter (L := [some (vR G 33 0), none]) (by decide) rfl rfl ?_
  refine wp_aload_n eX9_undo_0 rfl ?_
  refine wp_iconst eX9_undo_1 ?_
  refine c_X9_201 eX9_undo_2 (ct_mIsWrong ?_)
  rcases hl with hl0 | hl1
  · rw [show mo_thr M 1 = 1 by unfold mo_thr; rw [if_pos hl0]]
    refine wp_if_eq eX9_undo_5 (fun c5 => ?_) (fun c5 => ?_)
    · exact absurd c5 (by decide)
    · refine wp_iconst eX9_undo_8 ?_
      refine wp_ireturn eX9_undo_9 ?_
      exact k1 hl0
  · rw [show mo_thr M 1 = 0 by unfold mo_thr; rw [if_neg (by omega), if_neg (by decide)]]
    skip
    refine wp_if_eq eX9_undo_5 (fun c5 => ?_) (fun c5 => ?_)
    · refine wp_aload_n eX9_undo_10 rfl ?_
      refine gf_X9_198 eX9_undo_11 ?_
      rw [up_v, if_neg (by decide)]
      refine wp_if_ne eX9_undo_14 (fun c14 => ?_) (fun c14 => ?_)
      · refine wp_aload_n eX9_undo_20 rfl ?_
        refine wp_dup eX9_undo_21 ?_
        refine gf_X9_198 eX9_undo_22 ?_
        refine wp_iconst eX9_undo_25 ?_
        refine wp_isub eX9_undo_26 ?_
        refine pf_X9_198 eX9_undo_27 ?_
        refine wp_iconst eX9_undo_30 ?_
        refine ist_1 eX9_undo_31 ?_
        rw [up_v, if_neg (by decide)]
        have e9 := @row_self (bc_up (bc_up M 33 0 4 0) 33 0 2 (M 33 0 2 - 1)) 34 0
        rw [← e9]
        rw [show bc_up (bc_up M 33 0 4 0) 33 0 2 (M 33 0 2 - 1) 34 0 = cpF (M 34 0) (fun q => M 35 0 (206 * (M 33 0 2 - 1) + q)) 0 0 by rw [cpF0, up_kne (by decide), up_kne (by decide)]]
        exact lp_mUndo (M := bc_up (bc_up M 33 0 4 0) 33 0 2 (M 33 0 2 - 1)) (a := M 33 0 2 - 1) (by rw [up_v, if_pos rfl]) (by omega) (fun q a b => by rw [up_kne (by decide), up_kne (by decide)]) 206 0 (by omega) (by omega) (k3 hl1 (by omega))
      · refine wp_bipush eX9_undo_17 ?_
        refine wp_ireturn eX9_undo_19 ?_
        exact k3a hl1 (by omega)
    · exact absurd (by decide) c5
