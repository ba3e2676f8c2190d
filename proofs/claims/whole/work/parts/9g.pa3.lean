def p_c (b : Int → Int) (ti : Nat) (σ : bl_s) : Bool := decide (σ.2.2.2.1 = 1 ∧ σ.2.2.1 - σ.2.1 = st_len ti) && p_eq b σ.2.1 ti (st_len ti).toNat 0
theorem p_c_w {b : Int → Int} {ti : Nat} {σ : bl_s} (h : σ.1 = 0) : p_c b ti σ = p_w b ti σ := by
  unfold p_c p_w
  congr 1
  exact decide_eq_decide.mpr ⟨fun q => ⟨h, q.1, q.2⟩, fun q => ⟨q.2.1, q.2.2⟩⟩
theorem p_po_x {b : Int → Int} {σ : bl_s} (h1 : p_w b 6 σ = true) : p_w b 4 σ = false ∧ p_w b 5 σ = false := by
  unfold p_w at h1
  rw [Bool.and_eq_true, decide_eq_true_iff] at h1
  have hl : st_len 6 = 3 := by decide
  have e6 := h1.2
  rw [hl] at e6
  have k6 : b (σ.2.1 + 0) = st_ch 6 0 := by
    apply Decidable.byContradiction
    intro h
    have : p_eq b σ.2.1 6 3 0 = false := by simp only [p_eq]; rw [if_neg h]
    rw [show (3 : Int).toNat = 3 from rfl, this] at e6
    exact absurd e6 (by decide)
  have k6b : b (σ.2.1 + (0 + 1)) = st_ch 6 (0 + 1) := by
    apply Decidable.byContradiction
    intro h
    have : p_eq b σ.2.1 6 3 0 = false := by simp only [p_eq]; rw [if_pos k6, if_neg h]
    rw [show (3 : Int).toNat = 3 from rfl, this] at e6
    exact absurd e6 (by decide)
  have c1 : st_ch 6 0 = 108 := by decide
  have c2 : st_ch 6 (0 + 1) = 114 := by decide
  have c3 : st_ch 4 0 = 108 := by decide
  have c4 : st_ch 4 (0 + 1) = 102 := by decide
  have c5 : st_ch 5 0 = 112 := by decide
  constructor
  · unfold p_w
    have : p_eq b σ.2.1 4 (st_len 4).toNat 0 = false := by
      rw [show (st_len 4).toNat = 3 by decide]
      simp only [p_eq]
      rw [if_pos (by rw [k6, c1, c3]), if_neg (by rw [k6b, c2, c4]; decide)]
    rw [this, Bool.and_false]
  · unfold p_w
    have : p_eq b σ.2.1 5 (st_len 5).toNat 0 = false := by
      rw [show (st_len 5).toNat = 3 by decide]
      simp only [p_eq]
      rw [if_neg (by rw [k6, c1, c5]; decide)]
    rw [this, Bool.and_false]
theorem ct_pFail {G : bc_G} {M : bc_M} {post : bc_R → bc_M → Prop} {c len : Int} {σ : bl_s} (hP : PC (M 3 0) len σ) (hσ : SG len σ) (k : ∀ g' : Int → Int, PC g' len (p_f c σ) → post (.inr none) (bc_row M 3 0 g')) : bc_Call G yX2_fail cX2_fail 2 none 1 0 [vR G 3 0, vI c] M post := by
  refine bc_enter (L := [some (vR G 3 0), some (vI c)]) (by decide) rfl rfl ?_
  refine wp_aload_n eX2_fail_0 rfl ?_
  refine gf_X2_19 eX2_fail_1 ?_
  rw [hP.2.1]
  have hr := hσ.1
  refine wp_if_ne eX2_fail_4 (fun c4 => ?_) (fun c4 => ?_)
  · rw [p_f_e c4] at k
    have k9 := k (M 3 0) hP
    rw [row_self] at k9
    refine wp_return eX2_fail_12 ?_
    first
    | exact k9
    | (rw [up_row]; exact k _ ⟨⟨by rw [u_ne (by decide)]; exact hP.1.1, by rw [u_ne (by decide)]; exact hP.1.2⟩, by rw [u_at], by rw [u_ne (by decide)]; exact hP.2.2.1, by rw [u_ne (by decide)]; exact hP.2.2.2.1, by rw [u_ne (by decide)]; exact hP.2.2.2.2.1, by rw [u_ne (by decide)]; exact hP.2.2.2.2.2⟩)
  · have he : σ.1 = 0 := by omega
    rw [show p_f c σ = (c, σ.2) from if_pos he] at k
    rw [show M = bc_row M 3 0 (M 3 0) from row_self.symm]
    refine wp_aload_n eX2_fail_7 rfl ?_
    refine wp_iload_n eX2_fail_8 rfl ?_
    refine pf_X2_19 eX2_fail_9 ?_
    refine wp_return eX2_fail_12 ?_
    first
    | exact k9
    | (rw [up_row]; exact k _ ⟨⟨by rw [u_ne (by decide)]; exact hP.1.1, by rw [u_ne (by decide)]; exact hP.1.2⟩, by rw [u_at], by rw [u_ne (by decide)]; exact hP.2.2.1, by rw [u_ne (by decide)]; exact hP.2.2.2.1, by rw [u_ne (by decide)]; exact hP.2.2.2.2.1, by rw [u_ne (by decide)]; exact hP.2.2.2.2.2⟩)
theorem lp_pIsWord {G : bc_G} {M : bc_M} {post : bc_R → bc_M → Prop} {b : Int → Int} {len : Int} (hb : BC M b len) {σ : bl_s} (hP : PC (M 3 0) len σ) (hσ : SG len σ) {ti : Nat} (ht : ti < 12) (hw : σ.2.2.1 - σ.2.1 = st_len ti) : ∀ (n : Nat) (j : Int) (h1 : j + n = st_len ti) (h2 : 0 ≤ j) (k : post (.inr (some (vI (if p_eq b σ.2.1 ti n j = true then 1 else 0)))) M), bc_W G RX2 cX2_isWord 3 (some .boolean) 5 0 0 28 [some (vR G 3 0), some (vR G 100 ti), some (vI j)] [] M post := by
  intro n
  induction n with
  | zero =>
    intro j h1 h2 k
    have hln := st_len_r ⟨ti, ht⟩
    simp only at hln
    have hl := hb.2
    have hs1 := hσ.2.1
    refine wp_iload_n eX2_isWord_28 rfl ?_
    refine wp_aload_n eX2_isWord_29 rfl ?_
    refine ts_X2_122 eX2_isWord_30 (ct_sLen ht ?_) ht
    refine wp_icmp_ge eX2_isWord_33 (fun c33 => ?_) (fun c33 => ?_)
    · rw [show p_eq b σ.2.1 ti 0 j = true from rfl] at k
      refine wp_iconst eX2_isWord_62 ?_
      refine wp_zreturn eX2_isWord_63 (by decide) ?_
      exact k
    · omega
  | succ n ih =>
    intro j h1 h2 k
    have hln := st_len_r ⟨ti, ht⟩
    simp only at hln
    have hl := hb.2
    have hs1 := hσ.2.1
    refine wp_iload_n eX2_isWord_28 rfl ?_
    refine wp_aload_n eX2_isWord_29 rfl ?_
    refine ts_X2_122 eX2_isWord_30 (ct_sLen ht ?_) ht
    refine wp_icmp_ge eX2_isWord_33 (fun c33 => ?_) (fun c33 => ?_)
    · omega
    · refine wp_aload_n eX2_isWord_36 rfl ?_
      refine wp_aload_n eX2_isWord_37 rfl ?_
      refine gf_X2_22 eX2_isWord_38 ?_
      rw [hP.2.2.1]
      refine wp_iload_n eX2_isWord_41 rfl ?_
      refine wp_iadd eX2_isWord_42 ?_
      refine c_X2_126 eX2_isWord_43 (ct_pByteAt hb hP.1.1 hP.1.2 (x := σ.2.1 + j) (by omega) ?_)
      rw [if_pos (by omega)]
      have hbq := (hb.1 (σ.2.1 + j) (by omega) (by omega)).2
      refine wp_aload_n eX2_isWord_46 rfl ?_
      refine wp_iload_n eX2_isWord_47 rfl ?_
      refine ts_X2_130 eX2_isWord_48 (ct_sChar ht (by omega) ?_) ht
      have hch := st_ch_r ht (j := j) (by omega)
      refine wp_icmp_eq eX2_isWord_51 (fun c51 => ?_) (fun c51 => ?_)
      · have hk9 : p_eq b σ.2.1 ti (n + 1) j = p_eq b σ.2.1 ti n (j + 1) := by
          simp only [p_eq]
          rw [if_pos (by omega)]
        rw [hk9] at k
        refine inc_2 eX2_isWord_56 ?_
        refine wp_goto eX2_isWord_59 ?_
        exact ih (j + 1) (by omega) (by omega) k
      · have hk9 : p_eq b σ.2.1 ti (n + 1) j = false := by
          simp only [p_eq]
          rw [if_neg (by omega)]
        rw [hk9] at k
        refine wp_iconst eX2_isWord_54 ?_
        refine wp_zreturn eX2_isWord_55 (by decide) ?_
        exact k
theorem ct_pIsWord {G : bc_G} {M : bc_M} {post : bc_R → bc_M → Prop} {b : Int → Int} {len : Int} (hb : BC M b len) {σ : bl_s} (hP : PC (M 3 0) len σ) (hσ : SG len σ) {ti : Nat} (ht : ti < 12) (k : post (.inr (some (vI (if p_c b ti σ = true then 1 else 0)))) M) : bc_Call G yX2_isWord cX2_isWord 3 (some .boolean) 5 0 [vR G 3 0, vR G 100 ti] M post := by
  have hln := st_len_r ⟨ti, ht⟩
  simp only at hln
  have hl := hb.2
  have hs1 := hσ.2.1
  have hkr := hσ.2.2.1
  refine bc_enter (L := [some (vR G 3 0), some (vR G 100 ti), none]) (by decide) rfl rfl ?_
  refine wp_aload_n eX2_isWord_0 rfl ?_
  refine gf_X2_28 eX2_isWord_1 ?_
  rw [hP.2.2.2.2.1]
  refine wp_iconst eX2_isWord_4 ?_
  refine wp_icmp_ne eX2_isWord_5 (fun c5 => ?_) (fun c5 => ?_)
  · have hk9 : p_c b ti σ = false := by
      unfold p_c
      rw [decide_eq_false (fun q => by omega), Bool.false_and]
    rw [hk9] at k
    refine wp_iconst eX2_isWord_24 ?_
    refine wp_zreturn eX2_isWord_25 (by decide) ?_
    exact k
  · refine wp_aload_n eX2_isWord_8 rfl ?_
    refine gf_X2_25 eX2_isWord_9 ?_
    rw [hP.2.2.2.1]
    refine wp_aload_n eX2_isWord_12 rfl ?_
    refine gf_X2_22 eX2_isWord_13 ?_
    rw [hP.2.2.1]
    refine wp_isub eX2_isWord_16 ?_
    refine wp_aload_n eX2_isWord_17 rfl ?_
    refine ts_X2_122 eX2_isWord_18 (ct_sLen ht ?_) ht
    refine wp_icmp_eq eX2_isWord_21 (fun c21 => ?_) (fun c21 => ?_)
    · refine wp_iconst eX2_isWord_26 ?_
      refine ist_2 eX2_isWord_27 ?_
      refine lp_pIsWord hb hP hσ ht (by omega) (st_len ti).toNat 0 (by omega) (by omega) ?_
      have hk9 : p_c b ti σ = p_eq b σ.2.1 ti (st_len ti).toNat 0 := by
        unfold p_c
        rw [decide_eq_true ⟨by omega, by omega⟩, Bool.true_and]
      rw [hk9] at k
      exact k
    · have hk9 : p_c b ti σ = false := by
        unfold p_c
        rw [decide_eq_false (fun q => by omega), Bool.false_and]
      rw [hk9] at k
      refine wp_iconst eX2_isWord_24 ?_
      refine wp_zreturn eX2_isWord_25 (by decide) ?_
      exact k
theorem ct_pNum {G : bc_G} {M : bc_M} {post : bc_R → bc_M → Prop} {lo hi : Int} (hlo : 0 ≤ lo ∧ lo < 10000) (hhi : -1 ≤ hi ∧ hi < 10000) {b : Int → Int} {len : Int} (hb : BC M b len) {σ : bl_s} (hP : PC (M 3 0) len σ) (hσ : SG len σ) (k : ∀ g' : Int → Int, PC g' len (p_n b len lo hi σ) → post (.inr (some (vI σ.2.2.2.2))) (bc_row M 3 0 g')) : bc_Call G yX2_takeNumber cX2_takeNumber 4 (some .int) 6 0 [vR G 3 0, vI lo, vI hi] M post := by
  have hkr := hσ.2.2.1
  have hv := hσ.2.2.2
  refine bc_enter (L := [some (vR G 3 0), some (vI lo), some (vI hi), none]) (by decide) rfl rfl ?_
  refine wp_aload_n eX2_takeNumber_0 rfl ?_
  refine gf_X2_31 eX2_takeNumber_1 ?_
  rw [hP.2.2.2.2.2]
  refine ist_3 eX2_takeNumber_4 ?_
  refine wp_aload_n eX2_takeNumber_5 rfl ?_
  refine gf_X2_28 eX2_takeNumber_6 ?_
  rw [hP.2.2.2.2.1]
  refine wp_iconst eX2_takeNumber_9 ?_
  refine wp_icmp_eq eX2_takeNumber_10 (fun c10 => ?_) (fun c10 => ?_)
  · refine wp_iload_n eX2_takeNumber_21 rfl ?_
    refine wp_iload_n eX2_takeNumber_22 rfl ?_
    refine wp_icmp_lt eX2_takeNumber_23 (fun c23 => ?_) (fun c23 => ?_)
    · have hpn : p_n b len lo hi σ = p_f 2 σ := by unfold p_n; rw [if_pos (by omega), if_neg (by omega)]
      rw [hpn] at k
      refine wp_aload_n eX2_takeNumber_31 rfl ?_
      refine wp_iconst eX2_takeNumber_32 ?_
      refine c_X2_66 eX2_takeNumber_33 (ct_pFail (c := 2) hP hσ (fun g1 p1 => ?_))
      refine wp_goto eX2_takeNumber_36 ?_
      refine wp_iload_n eX2_takeNumber_43 rfl ?_
      refine wp_ireturn eX2_takeNumber_44 ?_
      exact k g1 p1
    · refine wp_iload_n eX2_takeNumber_26 rfl ?_
      refine wp_iload_n eX2_takeNumber_27 rfl ?_
      refine wp_icmp_le eX2_takeNumber_28 (fun c28 => ?_) (fun c28 => ?_)
      · have hpn : p_n b len lo hi σ = p_a b len σ := by unfold p_n; rw [if_pos (by omega), if_pos (by omega)]
        rw [hpn] at k
        refine wp_aload_n eX2_takeNumber_39 rfl ?_
        refine c_X2_45 eX2_takeNumber_40 (ct_pAdv hb hP hσ (fun g1 p1 => ?_))
        refine wp_iload_n eX2_takeNumber_43 rfl ?_
        refine wp_ireturn eX2_takeNumber_44 ?_
        exact k g1 p1
      · have hpn : p_n b len lo hi σ = p_f 2 σ := by unfold p_n; rw [if_pos (by omega), if_neg (by omega)]
        rw [hpn] at k
        refine wp_aload_n eX2_takeNumber_31 rfl ?_
        refine wp_iconst eX2_takeNumber_32 ?_
        refine c_X2_66 eX2_takeNumber_33 (ct_pFail (c := 2) hP hσ (fun g1 p1 => ?_))
        refine wp_goto eX2_takeNumber_36 ?_
        refine wp_iload_n eX2_takeNumber_43 rfl ?_
        refine wp_ireturn eX2_takeNumber_44 ?_
        exact k g1 p1
  · have hpn : p_n b len lo hi σ = p_f 1 σ := by unfold p_n; rw [if_neg (by omega)]
    rw [hpn] at k
    refine wp_aload_n eX2_takeNumber_13 rfl ?_
    refine wp_iconst eX2_takeNumber_14 ?_
    refine c_X2_66 eX2_takeNumber_15 (ct_pFail (c := 1) hP hσ (fun g1 p1 => ?_))
    refine wp_goto eX2_takeNumber_18 ?_
    refine wp_iload_n eX2_takeNumber_43 rfl ?_
    refine wp_ireturn eX2_takeNumber_44 ?_
    exact k g1 p1
theorem ct_pSemi {G : bc_G} {M : bc_M} {post : bc_R → bc_M → Prop} {b : Int → Int} {len : Int} (hb : BC M b len) {σ : bl_s} (hP : PC (M 3 0) len σ) (hσ : SG len σ) (k : ∀ g' : Int → Int, PC g' len (p_s b len σ) → post (.inr none) (bc_row M 3 0 g')) : bc_Call G yX2_takeSemicolon cX2_takeSemicolon 1 none 6 0 [vR G 3 0] M post := by
  have hkr := hσ.2.2.1
  refine bc_enter (L := [some (vR G 3 0)]) (by decide) rfl rfl ?_
  refine wp_aload_n eX2_takeSemicolon_0 rfl ?_
  refine gf_X2_28 eX2_takeSemicolon_1 ?_
  rw [hP.2.2.2.2.1]
  refine wp_iconst eX2_takeSemicolon_4 ?_
  refine wp_icmp_ne eX2_takeSemicolon_5 (fun c5 => ?_) (fun c5 => ?_)
  · have hpn : p_s b len σ = p_f 1 σ := by unfold p_s; rw [if_neg (by omega)]
    rw [hpn] at k
    refine wp_aload_n eX2_takeSemicolon_15 rfl ?_
    refine wp_iconst eX2_takeSemicolon_16 ?_
    refine c_X2_66 eX2_takeSemicolon_17 (ct_pFail (c := 1) hP hσ (fun g1 p1 => ?_))
    refine wp_return eX2_takeSemicolon_20 ?_
    exact k g1 p1
  · have hpn : p_s b len σ = p_a b len σ := by unfold p_s; rw [if_pos (by omega)]
    rw [hpn] at k
    refine wp_aload_n eX2_takeSemicolon_8 rfl ?_
    refine c_X2_45 eX2_takeSemicolon_9 (ct_pAdv hb hP hσ (fun g1 p1 => ?_))
    refine wp_goto eX2_takeSemicolon_12 ?_
    refine wp_return eX2_takeSemicolon_20 ?_
    exact k g1 p1
set_option maxHeartbeats 1000000 in
theorem ct_pPolicy {G : bc_G} {M : bc_M} {post : bc_R → bc_M → Prop} {b : Int → Int} {len : Int} (hb : BC M b len) {σ : bl_s} (hP : PC (M 3 0) len σ) (hσ : SG len σ) (k : ∀ g' : Int → Int, PC g' len (p_pa b len σ) → ∀ v : Int, (σ.1 = 0 → 0 ≤ p_po b σ → v = p_po b σ) → (0 ≤ v ∧ v ≤ 2) → post (.inr (some (vI v))) (bc_row M 3 0 g')) : bc_Call G yX2_takePolicy cX2_takePolicy 2 (some .int) 6 0 [vR G 3 0] M post := by
  refine bc_enter (L := [some (vR G 3 0), none]) (by decide) rfl rfl ?_
  refine wp_aload_n eX2_takePolicy_0 rfl ?_
  refine wp_ldcS (ti := 4) (tx := "lfu") eX2_takePolicy_1 (by decide +kernel) ?_
  refine c_X2_112 eX2_takePolicy_3 (ct_pIsWord hb hP hσ (ti := 4) (by decide) ?_)
  refine wp_if_eq eX2_takePolicy_6 (fun c6 => ?_) (fun c6 => ?_) (by split <;> omega)
  · have w4 : p_c b 4 σ = false := by
      cases h9 : p_c b 4 σ
      · rfl
      · rw [if_pos h9] at c6
        exact absurd c6 (by decide)
    refine wp_aload_n eX2_takePolicy_13 rfl ?_
    refine wp_ldcS (ti := 5) (tx := "pix") eX2_takePolicy_14 (by decide +kernel) ?_
    refine c_X2_112 eX2_takePolicy_16 (ct_pIsWord hb hP hσ (ti := 5) (by decide) ?_)
    refine wp_if_eq eX2_takePolicy_19 (fun c19 => ?_) (fun c19 => ?_) (by split <;> omega)
    · have w5 : p_c b 5 σ = false := by
        cases h9 : p_c b 5 σ
        · rfl
        · rw [if_pos h9] at c19
          exact absurd c19 (by decide)
      refine wp_iconst eX2_takePolicy_26 ?_
      refine ist_1 eX2_takePolicy_27 ?_
      refine wp_iload_n eX2_takePolicy_28 rfl ?_
      refine wp_if_ne eX2_takePolicy_29 (fun c29 => ?_) (fun c29 => ?_)
      · exact absurd rfl c29
      · refine wp_aload_n eX2_takePolicy_32 rfl ?_
        refine wp_ldcS (ti := 6) (tx := "lru") eX2_takePolicy_33 (by decide +kernel) ?_
        refine c_X2_112 eX2_takePolicy_35 (ct_pIsWord hb hP hσ (ti := 6) (by decide) ?_)
        refine wp_if_ne eX2_takePolicy_38 (fun c38 => ?_) (fun c38 => ?_) (by split <;> omega)
        · have w6 : p_c b 6 σ = true := by
            apply Decidable.byContradiction
            intro h9
            rw [if_neg h9] at c38
            exact absurd rfl c38
          have hpp : p_pa b len σ = p_a b len σ := by
            by_cases he : σ.1 = 0
            · rw [p_c_w he] at w6
              have hpo : p_po b σ = 0 := by unfold p_po; rw [if_pos w6]
              unfold p_pa; rw [hpo, if_neg (by decide)]
            · unfold p_pa
              rw [p_a_e he]
              split
              · rw [p_f_e he, p_a_e he]
              · rw [p_a_e he]
          rw [hpp] at k
          have hval : σ.1 = 0 → 0 ≤ p_po b σ → (0 : Int) = p_po b σ := fun he _ => by
            rw [p_c_w he] at w6
            unfold p_po
            rw [if_pos w6]
          refine wp_aload_n eX2_takePolicy_49 rfl ?_
          refine c_X2_45 eX2_takePolicy_50 (ct_pAdv hb hP hσ (fun g1 p1 => ?_))
          refine wp_iload_n eX2_takePolicy_53 rfl ?_
          refine wp_ireturn eX2_takePolicy_54 ?_
          exact k g1 p1 _ hval (by decide)
        · have w6 : p_c b 6 σ = false := by
            cases h9 : p_c b 6 σ
            · rfl
            · rw [if_pos h9] at c38
              exact absurd (by decide) c38
          have hpp : p_pa b len σ = p_f 1 σ := by
            by_cases he : σ.1 = 0
            · rw [p_c_w he] at w4 w5 w6
              have hpo : p_po b σ = -1 := by unfold p_po; rw [if_neg (by rw [w6]; decide), if_neg (by rw [w4]; decide), if_neg (by rw [w5]; decide)]
              unfold p_pa; rw [hpo, if_pos (by decide), p_a_e (p_f_ne (by decide))]
            · unfold p_pa
              rw [p_f_e he]
              split
              · rw [p_a_e he]
              · rw [p_a_e he]
          rw [hpp] at k
          have hval : σ.1 = 0 → 0 ≤ p_po b σ → (0 : Int) = p_po b σ := fun he h0 => by
            rw [p_c_w he] at w4 w5 w6
            have hpo : p_po b σ = -1 := by unfold p_po; rw [if_neg (by rw [w6]; decide), if_neg (by rw [w4]; decide), if_neg (by rw [w5]; decide)]
            omega
          refine wp_aload_n eX2_takePolicy_41 rfl ?_
          refine wp_iconst eX2_takePolicy_42 ?_
          refine c_X2_66 eX2_takePolicy_43 (ct_pFail (c := 1) hP hσ (fun g1 p1 => ?_))
          refine wp_goto eX2_takePolicy_46 ?_
          refine wp_iload_n eX2_takePolicy_53 rfl ?_
          refine wp_ireturn eX2_takePolicy_54 ?_
          exact k g1 p1 _ hval (by decide)
    · have w5 : p_c b 5 σ = true := by
        apply Decidable.byContradiction
        intro h9
        rw [if_neg h9] at c19
        exact absurd rfl c19
      refine wp_iconst eX2_takePolicy_22 ?_
      refine wp_goto eX2_takePolicy_23 ?_
      refine ist_1 eX2_takePolicy_27 ?_
      refine wp_iload_n eX2_takePolicy_28 rfl ?_
      refine wp_if_ne eX2_takePolicy_29 (fun c29 => ?_) (fun c29 => ?_)
      · have hpp : p_pa b len σ = p_a b len σ := by
          by_cases he : σ.1 = 0
          · rw [p_c_w he] at w4 w5
            have hpo : p_po b σ = 2 := by
              unfold p_po
              cases h6 : p_w b 6 σ
              · rw [if_neg (by decide), if_neg (by rw [w4]; decide), if_pos w5]
              · rw [(p_po_x h6).2] at w5; exact absurd w5 (by decide)
            unfold p_pa; rw [hpo, if_neg (by decide)]
          · unfold p_pa
            rw [p_a_e he]
            split
            · rw [p_f_e he, p_a_e he]
            · rw [p_a_e he]
        rw [hpp] at k
        have hval : σ.1 = 0 → 0 ≤ p_po b σ → (2 : Int) = p_po b σ := fun he _ => by
          rw [p_c_w he] at w4 w5
          unfold p_po
          cases h6 : p_w b 6 σ
          · rw [if_neg (by decide), if_neg (by rw [w4]; decide), if_pos w5]
          · rw [(p_po_x h6).2] at w5; exact absurd w5 (by decide)
        refine wp_aload_n eX2_takePolicy_49 rfl ?_
        refine c_X2_45 eX2_takePolicy_50 (ct_pAdv hb hP hσ (fun g1 p1 => ?_))
        refine wp_iload_n eX2_takePolicy_53 rfl ?_
        refine wp_ireturn eX2_takePolicy_54 ?_
        exact k g1 p1 _ hval (by decide)
      · exact absurd (by decide) c29
  · have w4 : p_c b 4 σ = true := by
      apply Decidable.byContradiction
      intro h9
      rw [if_neg h9] at c6
      exact absurd rfl c6
    refine wp_iconst eX2_takePolicy_9 ?_
    refine wp_goto eX2_takePolicy_10 ?_
    refine ist_1 eX2_takePolicy_27 ?_
    refine wp_iload_n eX2_takePolicy_28 rfl ?_
    refine wp_if_ne eX2_takePolicy_29 (fun c29 => ?_) (fun c29 => ?_)
    · have hpp : p_pa b len σ = p_a b len σ := by
        by_cases he : σ.1 = 0
        · rw [p_c_w he] at w4
          have hpo : p_po b σ = 1 := by
            unfold p_po
            cases h6 : p_w b 6 σ
            · rw [if_neg (by decide), if_pos w4]
            · rw [(p_po_x h6).1] at w4; exact absurd w4 (by decide)
          unfold p_pa; rw [hpo, if_neg (by decide)]
        · unfold p_pa
          rw [p_a_e he]
          split
          · rw [p_f_e he, p_a_e he]
          · rw [p_a_e he]
      rw [hpp] at k
      have hval : σ.1 = 0 → 0 ≤ p_po b σ → (1 : Int) = p_po b σ := fun he _ => by
        rw [p_c_w he] at w4
        unfold p_po
        cases h6 : p_w b 6 σ
        · rw [if_neg (by decide), if_pos w4]
        · rw [(p_po_x h6).1] at w4; exact absurd w4 (by decide)
      refine wp_aload_n eX2_takePolicy_49 rfl ?_
      refine c_X2_45 eX2_takePolicy_50 (ct_pAdv hb hP hσ (fun g1 p1 => ?_))
      refine wp_iload_n eX2_takePolicy_53 rfl ?_
      refine wp_ireturn eX2_takePolicy_54 ?_
      exact k g1 p1 _ hval (by decide)
    · exact absurd (by decide) c29
def p_bg (b : Int → Int) (len : Int) (ti : Nat) (n lo mx : Int) (σ : bl_s) : bl_s := if p_w b ti σ = true then (if n < mx then p_a b len σ else p_f 3 σ) else if lo ≤ n then σ else p_f 1 σ
theorem SG.bg {b : Int → Int} {len : Int} {ti : Nat} {n lo mx : Int} {σ : bl_s} (h : SG len σ) : SG len (p_bg b len ti n lo mx σ) := by
  unfold p_bg
  split
  · split
    · exact h.a
    · exact h.f (by decide)
  · split
    · exact h
    · exact h.f (by decide)
set_option maxHeartbeats 1000000 in
theorem ct_pBegins {G : bc_G} {M : bc_M} {post : bc_R → bc_M → Prop} {b : Int → Int} {len : Int} (hb : BC M b len) {σ : bl_s} (hP : PC (M 3 0) len σ) (hσ : SG len σ) {ti : Nat} {n lo mx : Int} (ht : ti < 12) (hn : 0 ≤ n ∧ n ≤ 100) (hlo : 0 ≤ lo ∧ lo ≤ 1) (hmx : 1 ≤ mx ∧ mx ≤ 100) (k : ∀ g' : Int → Int, PC g' len (p_bg b len ti n lo mx σ) → post (.inr (some (vI (if p_w b ti σ = true ∧ n < mx then (1 : Int) else 0)))) (bc_row M 3 0 g')) : bc_Call G yX2_begins cX2_begins 5 (some .boolean) 7 0 [vR G 3 0, vR G 100 ti, vI n, vI lo, vI mx] M post := by
  have hr0 := hσ.1
  refine bc_enter (L := [some (vR G 3 0), some (vR G 100 ti), some (vI n), some (vI lo), some (vI mx)]) (by decide) rfl rfl ?_
  by_cases he : σ.1 = 0
  · skip
    refine wp_iload_n eX2_begins_0 rfl ?_
    refine wp_iload_n eX2_begins_1 rfl ?_
    refine wp_icmp_lt eX2_begins_2 (fun c2 => ?_) (fun c2 => ?_)
    · refine wp_iload_n eX2_begins_15 rfl ?_
      refine wp_iload eX2_begins_16 rfl ?_
      refine wp_icmp_lt eX2_begins_18 (fun c18 => ?_) (fun c18 => ?_)
      · refine wp_aload_n eX2_begins_29 rfl ?_
        refine wp_aload_n eX2_begins_30 rfl ?_
        refine c_X2_112 eX2_begins_31 (ct_pIsWord hb hP hσ (ti := ti) ht ?_)
        refine wp_if_eq eX2_begins_34 (fun c34 => ?_) (fun c34 => ?_) (by split <;> omega)
        · have hw : ¬ p_w b ti σ = true := by
            rw [← p_c_w he]
            intro h9
            rw [if_pos h9] at c34
            exact absurd c34 (by decide)
          have hbg : p_bg b len ti n lo mx σ = p_f 1 σ := by
            unfold p_bg
            rw [if_neg hw, if_neg (by omega)]
          rw [hbg] at k
          refine wp_aload_n eX2_begins_44 rfl ?_
          refine wp_iconst eX2_begins_45 ?_
          refine c_X2_66 eX2_begins_46 (ct_pFail (c := 1) hP hσ (fun g1 p1 => ?_))
          refine wp_aload_n eX2_begins_49 rfl ?_
          refine gf_X2_19 eX2_begins_50 ?_
          rw [row_at, p1.2.1]
          have hr9 := (hσ.f (c := 1) (by decide)).1
          refine wp_if_ne eX2_begins_53 (fun c53 => ?_) (fun c53 => ?_)
          · refine wp_iconst eX2_begins_60 ?_
            refine wp_zreturn eX2_begins_61 (by decide) ?_
            rw [show (if p_w b ti σ = true ∧ n < mx then (1 : Int) else 0) = 0 from if_neg (fun z => hw z.1)] at k
            exact k g1 p1
          · exact absurd (by omega) (p_f_ne (c := 1) (σ := σ) (by decide))
        · have hw : p_w b ti σ = true := by
            rw [← p_c_w he]
            apply Decidable.byContradiction
            intro h9
            rw [if_neg h9] at c34
            exact absurd rfl c34
          have hbg : p_bg b len ti n lo mx σ = p_a b len σ := by
            unfold p_bg
            rw [if_pos hw, if_pos (by omega)]
          rw [hbg] at k
          refine wp_aload_n eX2_begins_37 rfl ?_
          refine c_X2_45 eX2_begins_38 (ct_pAdv hb hP hσ (fun g1 p1 => ?_))
          refine wp_goto eX2_begins_41 ?_
          refine wp_aload_n eX2_begins_49 rfl ?_
          refine gf_X2_19 eX2_begins_50 ?_
          rw [row_at, p1.2.1]
          have hr9 := (hσ.a (b := b)).1
          refine wp_if_ne eX2_begins_53 (fun c53 => ?_) (fun c53 => ?_)
          · exact absurd (show (p_a b len σ).1 = 0 by unfold p_a; rw [if_pos he]) c53
          · refine wp_iconst eX2_begins_56 ?_
            refine wp_goto eX2_begins_57 ?_
            refine wp_zreturn eX2_begins_61 (by decide) ?_
            rw [show (if p_w b ti σ = true ∧ n < mx then (1 : Int) else 0) = 1 from if_pos ⟨hw, by omega⟩] at k
            exact k g1 p1
      · omega
    · refine wp_aload_n eX2_begins_5 rfl ?_
      refine wp_aload_n eX2_begins_6 rfl ?_
      refine c_X2_112 eX2_begins_7 (ct_pIsWord hb hP hσ (ti := ti) ht ?_)
      refine wp_if_ne eX2_begins_10 (fun c10 => ?_) (fun c10 => ?_) (by split <;> omega)
      · have hw : p_w b ti σ = true := by
          rw [← p_c_w he]
          apply Decidable.byContradiction
          intro h9
          rw [if_neg h9] at c10
          exact absurd rfl c10
        refine wp_iload_n eX2_begins_15 rfl ?_
        refine wp_iload eX2_begins_16 rfl ?_
        refine wp_icmp_lt eX2_begins_18 (fun c18 => ?_) (fun c18 => ?_)
        · refine wp_aload_n eX2_begins_29 rfl ?_
          refine wp_aload_n eX2_begins_30 rfl ?_
          refine c_X2_112 eX2_begins_31 (ct_pIsWord hb hP hσ (ti := ti) ht ?_)
          refine wp_if_eq eX2_begins_34 (fun c34 => ?_) (fun c34 => ?_) (by split <;> omega)
          · exact absurd hw (by
              rw [← p_c_w he]
              intro h9
              rw [if_pos h9] at c34
              exact absurd c34 (by decide))
          · have hbg : p_bg b len ti n lo mx σ = p_a b len σ := by
              unfold p_bg
              rw [if_pos hw, if_pos (by omega)]
            rw [hbg] at k
            refine wp_aload_n eX2_begins_37 rfl ?_
            refine c_X2_45 eX2_begins_38 (ct_pAdv hb hP hσ (fun g1 p1 => ?_))
            refine wp_goto eX2_begins_41 ?_
            refine wp_aload_n eX2_begins_49 rfl ?_
            refine gf_X2_19 eX2_begins_50 ?_
            rw [row_at, p1.2.1]
            have hr9 := (hσ.a (b := b)).1
            refine wp_if_ne eX2_begins_53 (fun c53 => ?_) (fun c53 => ?_)
            · exact absurd (show (p_a b len σ).1 = 0 by unfold p_a; rw [if_pos he]) c53
            · refine wp_iconst eX2_begins_56 ?_
              refine wp_goto eX2_begins_57 ?_
              refine wp_zreturn eX2_begins_61 (by decide) ?_
              rw [show (if p_w b ti σ = true ∧ n < mx then (1 : Int) else 0) = 1 from if_pos ⟨hw, by omega⟩] at k
              exact k g1 p1
        · have hbg : p_bg b len ti n lo mx σ = p_f 3 σ := by
            unfold p_bg
            rw [if_pos hw, if_neg (by omega)]
          rw [hbg] at k
          refine wp_aload_n eX2_begins_21 rfl ?_
          refine wp_iconst eX2_begins_22 ?_
          refine c_X2_66 eX2_begins_23 (ct_pFail (c := 3) hP hσ (fun g1 p1 => ?_))
          refine wp_goto eX2_begins_26 ?_
          refine wp_aload_n eX2_begins_49 rfl ?_
          refine gf_X2_19 eX2_begins_50 ?_
          rw [row_at, p1.2.1]
          have hr9 := (hσ.f (c := 3) (by decide)).1
          refine wp_if_ne eX2_begins_53 (fun c53 => ?_) (fun c53 => ?_)
          · refine wp_iconst eX2_begins_60 ?_
            refine wp_zreturn eX2_begins_61 (by decide) ?_
            rw [show (if p_w b ti σ = true ∧ n < mx then (1 : Int) else 0) = 0 from if_neg (fun z => by omega)] at k
            exact k g1 p1
          · exact absurd (by omega) (p_f_ne (c := 3) (σ := σ) (by decide))
      · have hw : ¬ p_w b ti σ = true := by
          rw [← p_c_w he]
          intro h9
          rw [if_pos h9] at c10
          exact c10 (by decide)
        have hbg : p_bg b len ti n lo mx σ = σ := by
          unfold p_bg
          rw [if_neg hw, if_pos (by omega)]
        rw [hbg] at k
        refine wp_iconst eX2_begins_13 ?_
        refine wp_zreturn eX2_begins_14 (by decide) ?_
        rw [show (if p_w b ti σ = true ∧ n < mx then (1 : Int) else 0) = 0 from if_neg (fun z => hw z.1)] at k
        have k9 := k (M 3 0) hP
        rw [row_self] at k9
        exact k9
  · have hbg : p_bg b len ti n lo mx σ = σ := by
      unfold p_bg
      rw [if_neg (by rw [p_w_e he]; decide), p_f_e he]
      split <;> rfl
    rw [hbg, show (if p_w b ti σ = true ∧ n < mx then (1 : Int) else 0) = 0 from if_neg (fun z => by rw [p_w_e he] at z; exact absurd z.1 (by decide))] at k
    refine wp_iload_n eX2_begins_0 rfl ?_
    refine wp_iload_n eX2_begins_1 rfl ?_
    refine wp_icmp_lt eX2_begins_2 (fun c2 => ?_) (fun c2 => ?_)
    · refine wp_iload_n eX2_begins_15 rfl ?_
      refine wp_iload eX2_begins_16 rfl ?_
      refine wp_icmp_lt eX2_begins_18 (fun c18 => ?_) (fun c18 => ?_)
      · refine wp_aload_n eX2_begins_29 rfl ?_
        refine wp_aload_n eX2_begins_30 rfl ?_
        refine c_X2_112 eX2_begins_31 (ct_pIsWord hb hP hσ (ti := ti) ht ?_)
        refine wp_if_eq eX2_begins_34 (fun c34 => ?_) (fun c34 => ?_) (by split <;> omega)
        · refine wp_aload_n eX2_begins_44 rfl ?_
          refine wp_iconst eX2_begins_45 ?_
          refine c_X2_66 eX2_begins_46 (ct_pFail (c := 1) hP hσ (fun g1 p1 => ?_))
          rw [p_f_e he] at p1
          refine wp_aload_n eX2_begins_49 rfl ?_
          refine gf_X2_19 eX2_begins_50 ?_
          rw [row_at, p1.2.1]
          refine wp_if_ne eX2_begins_53 (fun c53 => ?_) (fun c53 => ?_)
          · refine wp_iconst eX2_begins_60 ?_
            refine wp_zreturn eX2_begins_61 (by decide) ?_
            exact k g1 p1
          · exact absurd (show σ.1 = 0 by omega) he
        · refine wp_aload_n eX2_begins_37 rfl ?_
          refine c_X2_45 eX2_begins_38 (ct_pAdv hb hP hσ (fun g1 p1 => ?_))
          rw [p_a_e he] at p1
          refine wp_goto eX2_begins_41 ?_
          refine wp_aload_n eX2_begins_49 rfl ?_
          refine gf_X2_19 eX2_begins_50 ?_
          rw [row_at, p1.2.1]
          refine wp_if_ne eX2_begins_53 (fun c53 => ?_) (fun c53 => ?_)
          · refine wp_iconst eX2_begins_60 ?_
            refine wp_zreturn eX2_begins_61 (by decide) ?_
            exact k g1 p1
          · exact absurd (show σ.1 = 0 by omega) he
      · refine wp_aload_n eX2_begins_21 rfl ?_
        refine wp_iconst eX2_begins_22 ?_
        refine c_X2_66 eX2_begins_23 (ct_pFail (c := 3) hP hσ (fun g1 p1 => ?_))
        rw [p_f_e he] at p1
        refine wp_goto eX2_begins_26 ?_
        refine wp_aload_n eX2_begins_49 rfl ?_
        refine gf_X2_19 eX2_begins_50 ?_
        rw [row_at, p1.2.1]
        refine wp_if_ne eX2_begins_53 (fun c53 => ?_) (fun c53 => ?_)
        · refine wp_iconst eX2_begins_60 ?_
          refine wp_zreturn eX2_begins_61 (by decide) ?_
          exact k g1 p1
        · exact absurd (show σ.1 = 0 by omega) he
    · refine wp_aload_n eX2_begins_5 rfl ?_
      refine wp_aload_n eX2_begins_6 rfl ?_
      refine c_X2_112 eX2_begins_7 (ct_pIsWord hb hP hσ (ti := ti) ht ?_)
      refine wp_if_ne eX2_begins_10 (fun c10 => ?_) (fun c10 => ?_) (by split <;> omega)
      · refine wp_iload_n eX2_begins_15 rfl ?_
        refine wp_iload eX2_begins_16 rfl ?_
        refine wp_icmp_lt eX2_begins_18 (fun c18 => ?_) (fun c18 => ?_)
        · refine wp_aload_n eX2_begins_29 rfl ?_
          refine wp_aload_n eX2_begins_30 rfl ?_
          refine c_X2_112 eX2_begins_31 (ct_pIsWord hb hP hσ (ti := ti) ht ?_)
          refine wp_if_eq eX2_begins_34 (fun c34 => ?_) (fun c34 => ?_) (by split <;> omega)
          · refine wp_aload_n eX2_begins_44 rfl ?_
            refine wp_iconst eX2_begins_45 ?_
            refine c_X2_66 eX2_begins_46 (ct_pFail (c := 1) hP hσ (fun g1 p1 => ?_))
            rw [p_f_e he] at p1
            refine wp_aload_n eX2_begins_49 rfl ?_
            refine gf_X2_19 eX2_begins_50 ?_
            rw [row_at, p1.2.1]
            refine wp_if_ne eX2_begins_53 (fun c53 => ?_) (fun c53 => ?_)
            · refine wp_iconst eX2_begins_60 ?_
              refine wp_zreturn eX2_begins_61 (by decide) ?_
              exact k g1 p1
            · exact absurd (show σ.1 = 0 by omega) he
          · refine wp_aload_n eX2_begins_37 rfl ?_
            refine c_X2_45 eX2_begins_38 (ct_pAdv hb hP hσ (fun g1 p1 => ?_))
            rw [p_a_e he] at p1
            refine wp_goto eX2_begins_41 ?_
            refine wp_aload_n eX2_begins_49 rfl ?_
            refine gf_X2_19 eX2_begins_50 ?_
            rw [row_at, p1.2.1]
            refine wp_if_ne eX2_begins_53 (fun c53 => ?_) (fun c53 => ?_)
            · refine wp_iconst eX2_begins_60 ?_
              refine wp_zreturn eX2_begins_61 (by decide) ?_
              exact k g1 p1
            · exact absurd (show σ.1 = 0 by omega) he
        · refine wp_aload_n eX2_begins_21 rfl ?_
          refine wp_iconst eX2_begins_22 ?_
          refine c_X2_66 eX2_begins_23 (ct_pFail (c := 3) hP hσ (fun g1 p1 => ?_))
          rw [p_f_e he] at p1
          refine wp_goto eX2_begins_26 ?_
          refine wp_aload_n eX2_begins_49 rfl ?_
          refine gf_X2_19 eX2_begins_50 ?_
          rw [row_at, p1.2.1]
          refine wp_if_ne eX2_begins_53 (fun c53 => ?_) (fun c53 => ?_)
          · refine wp_iconst eX2_begins_60 ?_
            refine wp_zreturn eX2_begins_61 (by decide) ?_
            exact k g1 p1
          · exact absurd (show σ.1 = 0 by omega) he
      · refine wp_iconst eX2_begins_13 ?_
        refine wp_zreturn eX2_begins_14 (by decide) ?_
        have k9 := k (M 3 0) hP
        rw [row_self] at k9
        exact k9
