def mo_mv (a b : Int → Int) : Nat → Int → Int → Int
  | 0, _, w => w
  | n + 1, i, w => mo_mv a b n (i + 1) (if a i ≠ b i then w + 1 else w)
theorem FD.ms {M M' : bc_M} {it : Int → Int} {s : Bool × Int × Int × (Int → Int) × (Int → Int)} {dk fr pop bnd : Int → Int} {nd ni sg ln : Int} (h : FD M M' it s) (hs : MS M dk fr pop bnd nd ni sg ln) : MS M' dk fr pop bnd nd ni sg ln := by
  unfold MS at hs ⊢
  rw [h.1 34 0 (by unfold mqP; omega), h.2.1 5 (by decide), h.2.1 6 (by decide)]
  exact hs
theorem QM.fd {M M1 M2 : bc_M} {it : Int → Int} {s : Bool × Int × Int × (Int → Int) × (Int → Int)} (h : QM M M1) (h2 : FD M1 M2 it s) : QM M M2 := ⟨Fr.tr h.1 h2.1, fun f a b => (h2.2.1 f (by omega)).trans (h.2.1 f a b), (h2.2.1 4 (by decide)).trans h.2.2⟩
theorem ct_mTierSize {G : bc_G} {M : bc_M} {post : bc_R → bc_M → Prop} {q t : Int} {dk fr pop bnd : Int → Int} {nd ni sg ln : Int} (hI : M 33 0 3 = 1 → MS M dk fr pop bnd nd ni sg ln) (hl : M 33 0 3 = 0 ∨ M 33 0 3 = 1) (k1 : M 33 0 3 = 0 → post (.inr (some (vI 0))) (bc_up M 33 0 4 1)) (k2 : M 33 0 3 = 1 → (q < 1 ∨ M 33 0 5 < q ∨ t < 0 ∨ (q - 1) < t) → post (.inr (some (vI 0))) (bc_up M 33 0 4 2)) (k3 : M 33 0 3 = 1 → ¬ (q < 1 ∨ M 33 0 5 < q ∨ t < 0 ∨ (q - 1) < t) → ∀ M' : bc_M, QM M M' → post (.inr (some (vI (if ni < q then -2 else (fdR (fun dk => sp_WS dk fr pop nd ni sg ln 0) (fun dk => sp_S dk fr nd ni + sg * ln) (cpF (bc_up M 33 0 4 0 45 0) (fun q => rf pop ni q ni.toNat 0) 0 ni) (fun t => rf fr nd t nd.toNat 0) dk q ni (bc_up M 33 0 4 0 46 0) (bc_up M 33 0 4 0 33 0 34) (bc_up M 33 0 4 0 33 0 35) (bc_up M 33 0 4 0 47 0)).2.2.2.1 t)))) M') (ha : 0 ≤ M 33 0 2 ∧ M 33 0 2 ≤ 10) (hit : 0 ≤ M 33 0 6 ∧ M 33 0 6 ≤ 16) (hdi : 0 ≤ M 33 0 5 ∧ M 33 0 5 ≤ 4) (hcl : 0 ≤ M 33 0 7 ∧ M 33 0 7 ≤ 4) (h_q : -2147483648 ≤ q ∧ q < 2147483648 := by omega) (h_t : -2147483648 ≤ t ∧ t < 2147483648 := by omega) : bc_Call G yX9_tierSize cX9_tierSize 3 (some .int) 16 0 [vR G 33 0, vI q, vI t] M post := by
  refine bc_enter (L := [some (vR G 33 0), some (vI q), some (vI t)]) (by decide) rfl rfl ?_
  refine wp_aload_n eX9_tierSize_0 rfl ?_
  refine wp_iload_n eX9_tierSize_1 rfl ?_
  refine wp_i2l eX9_tierSize_2 ?_
  refine wp_lconst1 eX9_tierSize_3 ?_
  refine wp_aload_n eX9_tierSize_4 rfl ?_
  refine gf_X9_72 eX9_tierSize_5 ?_
  refine wp_i2l eX9_tierSize_8 ?_
  refine c_X9_75 eX9_tierSize_9 (ct_mIsIn ?_)
  refine wp_if_eq eX9_tierSize_12 (fun c12 => ?_) (fun c12 => ?_) (by split <;> decide)
  · have g12 : ¬ (1 ≤ q ∧ q ≤ M 33 0 5) := by
      intro h9
      rw [if_pos h9] at c12
      exact absurd c12 (by decide)
    refine wp_iconst eX9_tierSize_32 ?_
    refine c_X9_201 eX9_tierSize_33 (ct_mIsWrong ?_)
    rcases hl with hl0 | hl1
    · rw [show mo_thr M 0 = 1 by unfold mo_thr; rw [if_pos hl0]]
      refine wp_if_eq eX9_tierSize_36 (fun c36 => ?_) (fun c36 => ?_)
      · exact absurd c36 (by decide)
      · refine wp_iconst eX9_tierSize_39 ?_
        refine wp_ireturn eX9_tierSize_40 ?_
        exact k1 hl0
    · rw [show mo_thr M 0 = 2 by unfold mo_thr; rw [if_neg (by omega), if_pos rfl]]
      refine wp_if_eq eX9_tierSize_36 (fun c36 => ?_) (fun c36 => ?_)
      · exact absurd c36 (by decide)
      · refine wp_iconst eX9_tierSize_39 ?_
        refine wp_ireturn eX9_tierSize_40 ?_
        exact k2 hl1 (by omega)
  · have g12 : 1 ≤ q ∧ q ≤ M 33 0 5 := by
      apply Decidable.byContradiction
      intro h9
      rw [if_neg h9] at c12
      exact absurd rfl c12
    refine wp_iload_n eX9_tierSize_15 rfl ?_
    refine wp_i2l eX9_tierSize_16 ?_
    refine wp_lconst0 eX9_tierSize_17 ?_
    refine wp_iload_n eX9_tierSize_18 rfl ?_
    refine wp_iconst eX9_tierSize_19 ?_
    refine wp_isub eX9_tierSize_20 ?_
    refine wp_i2l eX9_tierSize_21 ?_
    refine c_X9_75 eX9_tierSize_22 (ct_mIsIn ?_)
    refine wp_if_eq eX9_tierSize_25 (fun c25 => ?_) (fun c25 => ?_) (by split <;> decide)
    · have g25 : ¬ (0 ≤ t ∧ t ≤ (q - 1)) := by
        intro h9
        rw [if_pos h9] at c25
        exact absurd c25 (by decide)
      refine wp_iconst eX9_tierSize_32 ?_
      refine c_X9_201 eX9_tierSize_33 (ct_mIsWrong ?_)
      rcases hl with hl0 | hl1
      · rw [show mo_thr M 0 = 1 by unfold mo_thr; rw [if_pos hl0]]
        refine wp_if_eq eX9_tierSize_36 (fun c36 => ?_) (fun c36 => ?_)
        · exact absurd c36 (by decide)
        · refine wp_iconst eX9_tierSize_39 ?_
          refine wp_ireturn eX9_tierSize_40 ?_
          exact k1 hl0
      · rw [show mo_thr M 0 = 2 by unfold mo_thr; rw [if_neg (by omega), if_pos rfl]]
        refine wp_if_eq eX9_tierSize_36 (fun c36 => ?_) (fun c36 => ?_)
        · exact absurd c36 (by decide)
        · refine wp_iconst eX9_tierSize_39 ?_
          refine wp_ireturn eX9_tierSize_40 ?_
          exact k2 hl1 (by omega)
    · have g25 : 0 ≤ t ∧ t ≤ (q - 1) := by
        apply Decidable.byContradiction
        intro h9
        rw [if_neg h9] at c25
        exact absurd rfl c25
      refine wp_iconst eX9_tierSize_28 ?_
      refine wp_goto eX9_tierSize_29 ?_
      refine c_X9_201 eX9_tierSize_33 (ct_mIsWrong ?_)
      rcases hl with hl0 | hl1
      · rw [show mo_thr M 1 = 1 by unfold mo_thr; rw [if_pos hl0]]
        refine wp_if_eq eX9_tierSize_36 (fun c36 => ?_) (fun c36 => ?_)
        · exact absurd c36 (by decide)
        · refine wp_iconst eX9_tierSize_39 ?_
          refine wp_ireturn eX9_tierSize_40 ?_
          exact k1 hl0
      · rw [show mo_thr M 1 = 0 by unfold mo_thr; rw [if_neg (by omega), if_neg (by decide)]]
        have hs0 := up_ms (f := 4) (v := 0) (hI hl1) (by decide) (by decide)
        have hs9 := hI hl1
        have hni := hs0.1.2.1
        have hnd := hs0.1.1
        have e6 := hs9.2.1.2
        have e5 := hs9.2.1.1
        refine wp_if_eq eX9_tierSize_36 (fun c36 => ?_) (fun c36 => ?_)
        · refine wp_aload_n eX9_tierSize_41 rfl ?_
          refine gf_X9_79 eX9_tierSize_42 ?_
          rw [up_v, if_neg (by decide), e6]
          refine wp_iload_n eX9_tierSize_45 rfl ?_
          refine wp_icmp_ge eX9_tierSize_46 (fun c46 => ?_) (fun c46 => ?_)
          · refine wp_aload_n eX9_tierSize_52 rfl ?_
            refine wp_iload_n eX9_tierSize_53 rfl ?_
            refine c_X9_347 eX9_tierSize_54 (ct_findDivision hs0 (by omega) (by omega) (fun M1 hF hZ => ?_))
            refine wp_aload_n eX9_tierSize_57 rfl ?_
            refine gf_X9_53 eX9_tierSize_58 ?_
            refine wp_iload_n eX9_tierSize_61 rfl ?_
            refine al_47 eX9_tierSize_62 ?_
            rw [hF.2.2.2.1]
            refine wp_ireturn eX9_tierSize_63 ?_
            rw [if_neg (by omega)] at k3
            exact k3 hl1 (by omega) M1 (QM.b0.fd hF)
          · refine wp_bipush eX9_tierSize_49 ?_
            refine wp_ireturn eX9_tierSize_51 ?_
            rw [if_pos (by omega)] at k3
            exact k3 hl1 (by omega) _ QM.b0
        · exact absurd (by decide) c36
theorem ct_mTierWeight {G : bc_G} {M : bc_M} {post : bc_R → bc_M → Prop} {q : Int} {dk fr pop bnd : Int → Int} {nd ni sg ln : Int} (hI : M 33 0 3 = 1 → MS M dk fr pop bnd nd ni sg ln) (hl : M 33 0 3 = 0 ∨ M 33 0 3 = 1) (k1 : M 33 0 3 = 0 → post (.inr (some (vJ 0))) (bc_up M 33 0 4 1)) (k2 : M 33 0 3 = 1 → (q < 1 ∨ M 33 0 5 < q) → post (.inr (some (vJ 0))) (bc_up M 33 0 4 2)) (k3 : M 33 0 3 = 1 → ¬ (q < 1 ∨ M 33 0 5 < q) → ∀ M' : bc_M, QM M M' → post (.inr (some (vJ (if ni < q then -2 else (fdR (fun dk => sp_WS dk fr pop nd ni sg ln 0) (fun dk => sp_S dk fr nd ni + sg * ln) (cpF (bc_up M 33 0 4 0 45 0) (fun q => rf pop ni q ni.toNat 0) 0 ni) (fun t => rf fr nd t nd.toNat 0) dk q ni (bc_up M 33 0 4 0 46 0) (bc_up M 33 0 4 0 33 0 34) (bc_up M 33 0 4 0 33 0 35) (bc_up M 33 0 4 0 47 0)).2.1)))) M') (ha : 0 ≤ M 33 0 2 ∧ M 33 0 2 ≤ 10) (hit : 0 ≤ M 33 0 6 ∧ M 33 0 6 ≤ 16) (hdi : 0 ≤ M 33 0 5 ∧ M 33 0 5 ≤ 4) (hcl : 0 ≤ M 33 0 7 ∧ M 33 0 7 ≤ 4) (h_q : -2147483648 ≤ q ∧ q < 2147483648 := by omega) : bc_Call G yX9_tierWeight cX9_tierWeight 2 (some .long) 16 0 [vR G 33 0, vI q] M post := by
  refine bc_enter (L := [some (vR G 33 0), some (vI q)]) (by decide) rfl rfl ?_
  refine wp_aload_n eX9_tierWeight_0 rfl ?_
  refine wp_iload_n eX9_tierWeight_1 rfl ?_
  refine wp_i2l eX9_tierWeight_2 ?_
  refine wp_lconst1 eX9_tierWeight_3 ?_
  refine wp_aload_n eX9_tierWeight_4 rfl ?_
  refine gf_X9_72 eX9_tierWeight_5 ?_
  refine wp_i2l eX9_tierWeight_8 ?_
  refine c_X9_75 eX9_tierWeight_9 (ct_mIsIn ?_)
  by_cases hb9 : 1 ≤ q ∧ q ≤ M 33 0 5
  · rw [if_pos hb9]
    refine c_X9_201 eX9_tierWeight_12 (ct_mIsWrong ?_)
    rcases hl with hl0 | hl1
    · rw [show mo_thr M 1 = 1 by unfold mo_thr; rw [if_pos hl0]]
      refine wp_if_eq eX9_tierWeight_15 (fun c15 => ?_) (fun c15 => ?_)
      · exact absurd c15 (by decide)
      · refine wp_lconst0 eX9_tierWeight_18 ?_
        refine wp_lreturn eX9_tierWeight_19 ?_
        exact k1 hl0
    · rw [show mo_thr M 1 = 0 by unfold mo_thr; rw [if_neg (by omega), if_neg (by decide)]]
      have hs0 := up_ms (f := 4) (v := 0) (hI hl1) (by decide) (by decide)
      have hs9 := hI hl1
      have hni := hs0.1.2.1
      have hnd := hs0.1.1
      have e6 := hs9.2.1.2
      have e5 := hs9.2.1.1
      refine wp_if_eq eX9_tierWeight_15 (fun c15 => ?_) (fun c15 => ?_)
      · refine wp_aload_n eX9_tierWeight_20 rfl ?_
        refine gf_X9_79 eX9_tierWeight_21 ?_
        rw [up_v, if_neg (by decide), e6]
        refine wp_iload_n eX9_tierWeight_24 rfl ?_
        refine wp_icmp_ge eX9_tierWeight_25 (fun c25 => ?_) (fun c25 => ?_)
        · refine wp_aload_n eX9_tierWeight_32 rfl ?_
          refine wp_iload_n eX9_tierWeight_33 rfl ?_
          refine c_X9_347 eX9_tierWeight_34 (ct_findDivision hs0 (by omega) (by omega) (fun M1 hF hZ => ?_))
          refine wp_aload_n eX9_tierWeight_37 rfl ?_
          refine gf_X9_331 eX9_tierWeight_38 ?_
          rw [hF.2.2.1]
          refine wp_lreturn eX9_tierWeight_41 ?_
          rw [if_neg (by omega)] at k3
          exact k3 hl1 (by omega) M1 (QM.b0.fd hF)
        · refine wp_ldc2 (n := -2) eX9_tierWeight_28 kc_X9_360 (by decide) ?_
          refine wp_lreturn eX9_tierWeight_31 ?_
          rw [if_pos (by omega)] at k3
          exact k3 hl1 (by omega) _ QM.b0
      · exact absurd (by decide) c15
  · rw [if_neg hb9]
    refine c_X9_201 eX9_tierWeight_12 (ct_mIsWrong ?_)
    rcases hl with hl0 | hl1
    · rw [show mo_thr M 0 = 1 by unfold mo_thr; rw [if_pos hl0]]
      refine wp_if_eq eX9_tierWeight_15 (fun c15 => ?_) (fun c15 => ?_)
      · exact absurd c15 (by decide)
      · refine wp_lconst0 eX9_tierWeight_18 ?_
        refine wp_lreturn eX9_tierWeight_19 ?_
        exact k1 hl0
    · rw [show mo_thr M 0 = 2 by unfold mo_thr; rw [if_neg (by omega), if_pos rfl]]
      refine wp_if_eq eX9_tierWeight_15 (fun c15 => ?_) (fun c15 => ?_)
      · exact absurd c15 (by decide)
      · refine wp_lconst0 eX9_tierWeight_18 ?_
        refine wp_lreturn eX9_tierWeight_19 ?_
        exact k2 hl1 (by omega)
theorem lp_mvd {G : bc_G} {M : bc_M} {post : bc_R → bc_M → Prop} {dk fr pop bnd : Int → Int} {nd ni sg ln : Int} (hs : MS M dk fr pop bnd nd ni sg ln) {q : Int} {d0 : Int → Int} (hrng : ∀ i, 0 ≤ i → i < ni → 0 ≤ d0 i ∧ d0 i < 1000) (e40 : ∀ i, 0 ≤ i → i < ni → M 40 0 (16 + i) = d0 i) : ∀ (n : Nat) (i w : Int) (h1 : i + n = ni) (h2 : 0 ≤ i) (k : post (.inr (some (vI (mo_mv dk d0 n i w)))) M), bc_W G RX9 cX9_applyTiers 4 (some .int) 16 0 0 58 [some (vR G 33 0), some (vI q), some (vI w), some (vI i)] [] M post := by
  intro n
  induction n with
  | zero =>
    intro i w h1 h2 k
    have hni := hs.1.2.1
    have hnd := hs.1.1
    refine wp_iload_n eX9_applyTiers_58 rfl ?_
    refine wp_aload_n eX9_applyTiers_59 rfl ?_
    refine gf_X9_79 eX9_applyTiers_60 ?_
    rw [hs.2.1.2]
    refine wp_icmp_ge eX9_applyTiers_63 (fun c63 => ?_) (fun c63 => ?_)
    · simp only [mo_mv] at k
      refine wp_iload_n eX9_applyTiers_101 rfl ?_
      refine wp_ireturn eX9_applyTiers_102 ?_
      exact k
    · omega
  | succ n ih =>
    intro i w h1 h2 k
    have hni := hs.1.2.1
    have hnd := hs.1.1
    refine wp_iload_n eX9_applyTiers_58 rfl ?_
    refine wp_aload_n eX9_applyTiers_59 rfl ?_
    refine gf_X9_79 eX9_applyTiers_60 ?_
    rw [hs.2.1.2]
    refine wp_icmp_ge eX9_applyTiers_63 (fun c63 => ?_) (fun c63 => ?_)
    · omega
    · refine wp_iload_n eX9_applyTiers_66 rfl ?_
      refine wp_aload_n eX9_applyTiers_67 rfl ?_
      refine gf_X9_7 eX9_applyTiers_68 ?_
      refine wp_bipush eX9_applyTiers_71 ?_
      refine wp_iload_n eX9_applyTiers_73 rfl ?_
      refine wp_iadd eX9_applyTiers_74 ?_
      refine al_34 eX9_applyTiers_75 ?_
      rw [hs.2.2.1 i h2 (by omega)]
      have q1 := hs.1.2.2.2.2.2 i h2 (by omega)
      refine wp_aload_n eX9_applyTiers_76 rfl ?_
      refine gf_X9_32 eX9_applyTiers_77 ?_
      refine wp_bipush eX9_applyTiers_80 ?_
      refine wp_iload_n eX9_applyTiers_82 rfl ?_
      refine wp_iadd eX9_applyTiers_83 ?_
      refine al_40 eX9_applyTiers_84 ?_
      rw [e40 i h2 (by omega)]
      have q2 := hrng i h2 (by omega)
      refine wp_icmp_eq eX9_applyTiers_85 (fun c85 => ?_) (fun c85 => ?_)
      · simp only [mo_mv] at k
        rw [if_neg (by omega)] at k
        refine wp_iconst eX9_applyTiers_92 ?_
        refine wp_iadd eX9_applyTiers_93 ?_
        refine ist_2 eX9_applyTiers_94 ?_
        refine inc_3 eX9_applyTiers_95 ?_
        refine wp_goto eX9_applyTiers_98 ?_
        first
        | exact ih (i + 1) _ (by omega) (by omega) k
        | (rw [Int.add_zero]; exact ih (i + 1) _ (by omega) (by omega) k)
      · simp only [mo_mv] at k
        rw [if_pos (by omega)] at k
        refine wp_iconst eX9_applyTiers_88 ?_
        refine wp_goto eX9_applyTiers_89 ?_
        refine wp_iadd eX9_applyTiers_93 ?_
        refine ist_2 eX9_applyTiers_94 ?_
        refine inc_3 eX9_applyTiers_95 ?_
        refine wp_goto eX9_applyTiers_98 ?_
        first
        | exact ih (i + 1) _ (by omega) (by omega) k
        | (rw [Int.add_zero]; exact ih (i + 1) _ (by omega) (by omega) k)
theorem ct_mApplyTiers {G : bc_G} {M : bc_M} {post : bc_R → bc_M → Prop} {q : Int} {dk fr pop bnd : Int → Int} {nd ni sg ln : Int} (hI : M 33 0 3 = 1 → MS M dk fr pop bnd nd ni sg ln) (hl : M 33 0 3 = 0 ∨ M 33 0 3 = 1) (k1 : M 33 0 3 = 0 → post (.inr (some (vI 0))) (bc_up M 33 0 4 1)) (k2 : M 33 0 3 = 1 → (q < 1 ∨ M 33 0 5 < q) → post (.inr (some (vI 0))) (bc_up M 33 0 4 2)) (k3 : M 33 0 3 = 1 → ¬ (q < 1 ∨ M 33 0 5 < q) → ¬ ni < q → ∀ M1 M' : bc_M, FD (bc_up M 33 0 4 0) M1 (cpF (bc_up M 33 0 4 0 45 0) (fun q => rf pop ni q ni.toNat 0) 0 ni) (fdR (fun dk => sp_WS dk fr pop nd ni sg ln 0) (fun dk => sp_S dk fr nd ni + sg * ln) (cpF (bc_up M 33 0 4 0 45 0) (fun q => rf pop ni q ni.toNat 0) 0 ni) (fun t => rf fr nd t nd.toNat 0) dk q ni (bc_up M 33 0 4 0 46 0) (bc_up M 33 0 4 0 33 0 34) (bc_up M 33 0 4 0 33 0 35) (bc_up M 33 0 4 0 47 0)) → LK (bc_row (mrM M1) 40 0 (cpF (mrM M1 40 0) (mrM M1 34 0) (206 * 0) 206)) M' (ma_out (cpF (bc_up M 33 0 4 0 45 0) (fun q => rf pop ni q ni.toNat 0) 0 ni) (fun t => rf fr nd t nd.toNat 0) (fdR (fun dk => sp_WS dk fr pop nd ni sg ln 0) (fun dk => sp_S dk fr nd ni + sg * ln) (cpF (bc_up M 33 0 4 0 45 0) (fun q => rf pop ni q ni.toNat 0) 0 ni) (fun t => rf fr nd t nd.toNat 0) dk q ni (bc_up M 33 0 4 0 46 0) (bc_up M 33 0 4 0 33 0 34) (bc_up M 33 0 4 0 33 0 35) (bc_up M 33 0 4 0 47 0)).2.2.2.1 q.toNat 0 0 dk) → post (.inr (some (vI (mo_mv (ma_out (cpF (bc_up M 33 0 4 0 45 0) (fun q => rf pop ni q ni.toNat 0) 0 ni) (fun t => rf fr nd t nd.toNat 0) (fdR (fun dk => sp_WS dk fr pop nd ni sg ln 0) (fun dk => sp_S dk fr nd ni + sg * ln) (cpF (bc_up M 33 0 4 0 45 0) (fun q => rf pop ni q ni.toNat 0) 0 ni) (fun t => rf fr nd t nd.toNat 0) dk q ni (bc_up M 33 0 4 0 46 0) (bc_up M 33 0 4 0 33 0 34) (bc_up M 33 0 4 0 33 0 35) (bc_up M 33 0 4 0 47 0)).2.2.2.1 q.toNat 0 0 dk) dk ni.toNat 0 0)))) M') (ha : 0 ≤ M 33 0 2 ∧ M 33 0 2 ≤ 10) (hit : 0 ≤ M 33 0 6 ∧ M 33 0 6 ≤ 16) (hdi : 0 ≤ M 33 0 5 ∧ M 33 0 5 ≤ 4) (hcl : 0 ≤ M 33 0 7 ∧ M 33 0 7 ≤ 4) (k3a : M 33 0 3 = 1 → ¬ (q < 1 ∨ M 33 0 5 < q) → ni < q → post (.inr (some (vI (-2)))) (bc_up M 33 0 4 0)) (h_q : -2147483648 ≤ q ∧ q < 2147483648 := by omega) : bc_Call G yX9_applyTiers cX9_applyTiers 4 (some .int) 16 0 [vR G 33 0, vI q] M post := by
  refine bc_enter (L := [some (vR G 33 0), some (vI q), none, none]) (by decide) rfl rfl ?_
  refine wp_aload_n eX9_applyTiers_0 rfl ?_
  refine wp_iload_n eX9_applyTiers_1 rfl ?_
  refine wp_i2l eX9_applyTiers_2 ?_
  refine wp_lconst1 eX9_applyTiers_3 ?_
  refine wp_aload_n eX9_applyTiers_4 rfl ?_
  refine gf_X9_72 eX9_applyTiers_5 ?_
  refine wp_i2l eX9_applyTiers_8 ?_
  refine c_X9_75 eX9_applyTiers_9 (ct_mIsIn ?_)
  by_cases hb9 : 1 ≤ q ∧ q ≤ M 33 0 5
  · rw [if_pos hb9]
    refine c_X9_201 eX9_applyTiers_12 (ct_mIsWrong ?_)
    rcases hl with hl0 | hl1
    · rw [show mo_thr M 1 = 1 by unfold mo_thr; rw [if_pos hl0]]
      refine wp_if_eq eX9_applyTiers_15 (fun c15 => ?_) (fun c15 => ?_)
      · exact absurd c15 (by decide)
      · refine wp_iconst eX9_applyTiers_18 ?_
        refine wp_ireturn eX9_applyTiers_19 ?_
        exact k1 hl0
    · rw [show mo_thr M 1 = 0 by unfold mo_thr; rw [if_neg (by omega), if_neg (by decide)]]
      have hs0 := up_ms (f := 4) (v := 0) (hI hl1) (by decide) (by decide)
      have hs9 := hI hl1
      have hni := hs0.1.2.1
      have hnd := hs0.1.1
      have e6 := hs9.2.1.2
      have e5 := hs9.2.1.1
      refine wp_if_eq eX9_applyTiers_15 (fun c15 => ?_) (fun c15 => ?_)
      · refine wp_aload_n eX9_applyTiers_20 rfl ?_
        refine gf_X9_79 eX9_applyTiers_21 ?_
        rw [up_v, if_neg (by decide), e6]
        refine wp_iload_n eX9_applyTiers_24 rfl ?_
        refine wp_icmp_ge eX9_applyTiers_25 (fun c25 => ?_) (fun c25 => ?_)
        · refine wp_aload_n eX9_applyTiers_31 rfl ?_
          refine wp_iload_n eX9_applyTiers_32 rfl ?_
          refine c_X9_347 eX9_applyTiers_33 (ct_findDivision hs0 (by omega) (by omega) (fun M1 hF hZ => ?_))
          have hs1 := hF.ms hs0
          have hszr := hZ.2.rng (by omega)
          have hitr : ∀ p, 0 ≤ p → p < ni → 0 ≤ (cpF (bc_up M 33 0 4 0 45 0) (fun q => rf pop ni q ni.toNat 0) 0 ni) p ∧ (cpF (bc_up M 33 0 4 0 45 0) (fun q => rf pop ni q ni.toNat 0) 0 ni) p < ni := fun p a b => by
            have hrk := rk_RK (v := pop) (N := ni) (r := fun _ => 0) (by omega)
            unfold cpF
            rw [if_pos (by omega), show p - 0 = p by omega]
            show 0 ≤ rf pop ni p ni.toNat 0 ∧ rf pop ni p ni.toNat 0 < ni
            rw [rf_rk hrk ⟨a, b⟩]
            exact hrk.1 p a b
          refine wp_aload_n eX9_applyTiers_36 rfl ?_
          refine c_X9_276 eX9_applyTiers_37 (ct_mRemember (by rw [hF.2.1 2 (by decide), up_v, if_neg (by decide)]; exact ha) ?_)
          refine wp_aload_n eX9_applyTiers_40 rfl ?_
          refine wp_iconst eX9_applyTiers_41 ?_
          refine c_X9_341 eX9_applyTiers_42 (ct_putAside (by omega) ?_)
          refine wp_aload_n eX9_applyTiers_45 rfl ?_
          refine wp_aload_n eX9_applyTiers_46 rfl ?_
          refine gf_X9_53 eX9_applyTiers_47 ?_
          refine wp_iload_n eX9_applyTiers_50 rfl ?_
          refine c_X9_318 eX9_applyTiers_51 (ct_asg47 (it := (cpF (bc_up M 33 0 4 0 45 0) (fun q => rf pop ni q ni.toNat 0) 0 ni)) (sz := (fdR (fun dk => sp_WS dk fr pop nd ni sg ln 0) (fun dk => sp_S dk fr nd ni + sg * ln) (cpF (bc_up M 33 0 4 0 45 0) (fun q => rf pop ni q ni.toNat 0) 0 ni) (fun t => rf fr nd t nd.toNat 0) dk q ni (bc_up M 33 0 4 0 46 0) (bc_up M 33 0 4 0 33 0 34) (bc_up M 33 0 4 0 33 0 35) (bc_up M 33 0 4 0 47 0)).2.2.2.1) (by omega) (by rw [row_kne (by decide), mrM_o (by decide) (by decide)]; exact hF.2.2.2.2) hitr (by rw [row_kne (by decide), mrM_o (by decide) (by decide)]; exact hF.2.2.2.1) (fun t a b => by have := hszr t a b; omega) (row_ms (mrM_ms hs1) (by decide) (by decide)) ?_ (fun M3 hK hs3 => ?_))
          · have h9 := sp_from_sum (g := (fdR (fun dk => sp_WS dk fr pop nd ni sg ln 0) (fun dk => sp_S dk fr nd ni + sg * ln) (cpF (bc_up M 33 0 4 0 45 0) (fun q => rf pop ni q ni.toNat 0) 0 ni) (fun t => rf fr nd t nd.toNat 0) dk q ni (bc_up M 33 0 4 0 46 0) (bc_up M 33 0 4 0 33 0 34) (bc_up M 33 0 4 0 33 0 35) (bc_up M 33 0 4 0 47 0)).2.2.2.1) q.toNat 0
            simp only [sp_sum, Nat.zero_add] at h9
            have h8 := hZ.2.2
            rw [show (((0 : Nat)) : Int) = 0 from rfl] at h9
            omega
          refine wp_iconst eX9_applyTiers_54 ?_
          refine ist_2 eX9_applyTiers_55 ?_
          refine wp_iconst eX9_applyTiers_56 ?_
          refine ist_3 eX9_applyTiers_57 ?_
          refine lp_mvd hs3 (d0 := dk) (fun i a b => by have := hs0.1.2.2.2.2.2 i a b; omega) (fun i a b => ?_) ni.toNat 0 0 (by omega) (by omega) (k3 hl1 (by omega) (by omega) M1 M3 hF hK)
          rw [hK.1 40 0 (by omega), row_at]
          unfold cpF
          rw [if_pos (by omega), show 16 + i - 206 * 0 = 16 + i by omega, mrM_o (by decide) (by decide)]
          exact hs1.2.2.1 i a (by omega)
        · refine wp_bipush eX9_applyTiers_28 ?_
          refine wp_ireturn eX9_applyTiers_30 ?_
          exact k3a hl1 (by omega) (by omega)
      · exact absurd (by decide) c15
  · rw [if_neg hb9]
    refine c_X9_201 eX9_applyTiers_12 (ct_mIsWrong ?_)
    rcases hl with hl0 | hl1
    · rw [show mo_thr M 0 = 1 by unfold mo_thr; rw [if_pos hl0]]
      refine wp_if_eq eX9_applyTiers_15 (fun c15 => ?_) (fun c15 => ?_)
      · exact absurd c15 (by decide)
      · refine wp_iconst eX9_applyTiers_18 ?_
        refine wp_ireturn eX9_applyTiers_19 ?_
        exact k1 hl0
    · rw [show mo_thr M 0 = 2 by unfold mo_thr; rw [if_neg (by omega), if_pos rfl]]
      refine wp_if_eq eX9_applyTiers_15 (fun c15 => ?_) (fun c15 => ?_)
      · exact absurd c15 (by decide)
      · refine wp_iconst eX9_applyTiers_18 ?_
        refine wp_ireturn eX9_applyTiers_19 ?_
        exact k2 hl1 (by omega)
