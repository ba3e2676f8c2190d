def sp_sum (f : Int → Int) : Nat → Int
  | 0 => 0
  | n + 1 => sp_sum f n + f n
/-- a disk's chunk length: r rounds -/
def sp_sz (mem fr : Int → Int) (r d : Int) : Int := if 0 < mem d ∧ 0 < r / fr d then (mem d + r / fr d - 1) / (r / fr d) else 0
theorem sp_sz_rng {mem fr : Int → Int} {r d : Int} (hm : 0 ≤ mem d ∧ mem d ≤ 16) : 0 ≤ sp_sz mem fr r d ∧ sp_sz mem fr r d ≤ 16 := by
  unfold sp_sz
  split
  · rename_i h
    generalize r / fr d = c at h
    refine ⟨Int.ediv_nonneg (by omega) (by omega), ?_⟩
    have h1 : (mem d + c - 1) / c ≤ (16 * c) / c := by
      apply Int.ediv_le_ediv h.2
      have := Int.mul_le_mul_of_nonneg_right (show 1 ≤ c by omega) (show 0 ≤ mem d - 1 by omega)
      have h2 : mem d - 1 ≤ 15 := by omega
      have h3 := Int.mul_le_mul_of_nonneg_right (show (1 : Int) ≤ c by omega) (show (0 : Int) ≤ 15 by omega)
      omega
    rwa [Int.mul_ediv_cancel _ (by omega)] at h1
  · omega
theorem cc60 {G : bc_G} {M : bc_M} {post : bc_R → bc_M → Prop} {j z d nd ch uu r : Int} {mem fr : Int → Int} (hj : 0 ≤ j ∧ j < 2) (hz : 0 ≤ z ∧ z < 13) (hnd : 0 ≤ nd ∧ nd ≤ 4) (hd : 0 ≤ d ∧ d < nd) (hm : ∀ d, 0 ≤ d → d < nd → 0 ≤ mem d ∧ mem d ≤ 16) (e22 : ∀ d, 0 ≤ d → d < nd → M 22 j d = mem d) (hch : r / fr d = ch) (hch2 : 0 ≤ ch ∧ ch ≤ 60) (huu : (uu = 1 ∧ 0 < mem d ∧ 0 < ch) ∨ (uu = 0 ∧ ¬ (0 < mem d ∧ 0 < ch))) (K : bc_W G RX4 cX4_cutChunks 5 none 2 0 0 7 [some (vR G 17 j), some (vR G 6 z), some (vI (d + 1)), some (vI ch), some (vI uu)] [] (bc_up (bc_up (bc_up M 23 j d (sp_sz mem fr r d)) 24 j d (M 17 j 8)) 17 j 8 (M 17 j 8 + sp_sz mem fr r d)) post) : bc_W G RX4 cX4_cutChunks 5 none 2 0 0 60 [some (vR G 17 j), some (vR G 6 z), some (vI d), some (vI ch), some (vI uu)] [] M post := by
  refine wp_aload_n eX4_cutChunks_60 rfl ?_
  refine gf_X4_45 eX4_cutChunks_61 ?_
  refine wp_iload_n eX4_cutChunks_64 rfl ?_
  refine wp_iload eX4_cutChunks_65 rfl ?_
  refine wp_if_eq eX4_cutChunks_67 (fun c67 => ?_) (fun c67 => ?_) (by omega)
  · have hv : sp_sz mem fr r d = 0 := by unfold sp_sz; rw [if_neg (by omega)]
    refine wp_iconst eX4_cutChunks_85 ?_
    refine as_23 eX4_cutChunks_86 ?_
    refine wp_aload_n eX4_cutChunks_87 rfl ?_
    refine gf_X4_48 eX4_cutChunks_88 ?_
    refine wp_iload_n eX4_cutChunks_91 rfl ?_
    refine wp_aload_n eX4_cutChunks_92 rfl ?_
    refine gf_X4_39 eX4_cutChunks_93 ?_
    simp only [up_kne (k := 23) (k' := 17) (by decide), up_kne (k := 24) (k' := 17) (by decide), up_kne (k := 24) (k' := 23) (by decide), up_at, u_at]
    refine as_24 eX4_cutChunks_96 ?_
    refine wp_aload_n eX4_cutChunks_97 rfl ?_
    refine wp_dup eX4_cutChunks_98 ?_
    refine gf_X4_39 eX4_cutChunks_99 ?_
    refine wp_aload_n eX4_cutChunks_102 rfl ?_
    refine gf_X4_45 eX4_cutChunks_103 ?_
    refine wp_iload_n eX4_cutChunks_106 rfl ?_
    refine al_23 eX4_cutChunks_107 ?_
    refine wp_iadd eX4_cutChunks_108 ?_
    simp only [up_kne (k := 23) (k' := 17) (by decide), up_kne (k := 24) (k' := 17) (by decide), up_kne (k := 24) (k' := 23) (by decide), up_at, u_at]
    refine pf_X4_39 eX4_cutChunks_109 ?_
    refine inc_2 eX4_cutChunks_112 ?_
    refine wp_goto eX4_cutChunks_115 ?_
    rw [← hv]
    exact K
  · have hv : sp_sz mem fr r d = (mem d + ch - 1) / ch := by unfold sp_sz; rw [if_pos (by omega), hch]
    have hm1 := hm d hd.1 hd.2
    have he := e22 d hd.1 hd.2
    rw [← he] at hv hm1
    refine wp_aload_n eX4_cutChunks_70 rfl ?_
    refine gf_X4_42 eX4_cutChunks_71 ?_
    refine wp_iload_n eX4_cutChunks_74 rfl ?_
    refine al_22 eX4_cutChunks_75 ?_
    refine wp_iload_n eX4_cutChunks_76 rfl ?_
    refine wp_iadd eX4_cutChunks_77 ?_
    refine wp_iconst eX4_cutChunks_78 ?_
    refine wp_isub eX4_cutChunks_79 ?_
    refine wp_iload_n eX4_cutChunks_80 rfl ?_
    refine wp_idiv eX4_cutChunks_81 ?_
    refine wp_goto eX4_cutChunks_82 ?_
    refine as_23 eX4_cutChunks_86 ?_
    refine wp_aload_n eX4_cutChunks_87 rfl ?_
    refine gf_X4_48 eX4_cutChunks_88 ?_
    refine wp_iload_n eX4_cutChunks_91 rfl ?_
    refine wp_aload_n eX4_cutChunks_92 rfl ?_
    refine gf_X4_39 eX4_cutChunks_93 ?_
    simp only [up_kne (k := 23) (k' := 17) (by decide), up_kne (k := 24) (k' := 17) (by decide), up_kne (k := 24) (k' := 23) (by decide), up_at, u_at]
    refine as_24 eX4_cutChunks_96 ?_
    refine wp_aload_n eX4_cutChunks_97 rfl ?_
    refine wp_dup eX4_cutChunks_98 ?_
    refine gf_X4_39 eX4_cutChunks_99 ?_
    refine wp_aload_n eX4_cutChunks_102 rfl ?_
    refine gf_X4_45 eX4_cutChunks_103 ?_
    refine wp_iload_n eX4_cutChunks_106 rfl ?_
    refine al_23 eX4_cutChunks_107 ?_
    refine wp_iadd eX4_cutChunks_108 ?_
    simp only [up_kne (k := 23) (k' := 17) (by decide), up_kne (k := 24) (k' := 17) (by decide), up_kne (k := 24) (k' := 23) (by decide), up_at, u_at]
    refine pf_X4_39 eX4_cutChunks_109 ?_
    refine inc_2 eX4_cutChunks_112 ?_
    refine wp_goto eX4_cutChunks_115 ?_
    rw [← hv]
    exact K
theorem lp_cc {G : bc_G} {post : bc_R → bc_M → Prop} {j z nd r : Int} {mem fr : Int → Int} (hj : 0 ≤ j ∧ j < 2) (hz : 0 ≤ z ∧ z < 13) (hnd : 0 ≤ nd ∧ nd ≤ 4) (hm : ∀ d, 0 ≤ d → d < nd → 0 ≤ mem d ∧ mem d ≤ 16) (hfr : ∀ d, 0 ≤ d → d < nd → 1 ≤ fr d ∧ fr d ≤ 6) (hr : 0 < r ∧ r ≤ 60) : ∀ (n : Nat) (M : bc_M) (d : Int) (x3 x4 : Option Value) (h1 : d + n = nd) (h2 : 0 ≤ d) (e22 : ∀ d, 0 ≤ d → d < nd → M 22 j d = mem d) (e7 : M 7 z = fr) (e6 : M 6 z 2 = nd) (er : M 17 j 7 = r) (h3 : M 17 j 8 = sp_sum (sp_sz mem fr r) d.toNat) (h3b : ∀ d', 0 ≤ d' → d' < d → M 23 j d' = sp_sz mem fr r d' ∧ M 24 j d' = sp_sum (sp_sz mem fr r) d'.toNat) (k : (∀ M' : bc_M, Fr (fun k' j' => (k' = 17 ∨ k' = 23 ∨ k' = 24) ∧ j' = j) M M' → (∀ f, f ≠ 8 → M' 17 j f = M 17 j f) → M' 17 j 8 = sp_sum (sp_sz mem fr r) nd.toNat → (∀ d, 0 ≤ d → d < nd → M' 23 j d = sp_sz mem fr r d ∧ M' 24 j d = sp_sum (sp_sz mem fr r) d.toNat) → post (.inr none) M')), bc_W G RX4 cX4_cutChunks 5 none 2 0 0 7 [some (vR G 17 j), some (vR G 6 z), some (vI d), x3, x4] [] M post := by
  intro n
  induction n with
  | zero =>
    intro M d x3 x4 h1 h2 e22 e7 e6 er h3 h3b k
    refine wp_iload_n eX4_cutChunks_7 rfl ?_
    refine wp_aload_n eX4_cutChunks_8 rfl ?_
    refine gf_X4_80 eX4_cutChunks_9 ?_
    refine wp_icmp_ge eX4_cutChunks_12 (fun c12 => ?_) (fun c12 => ?_)
    · refine wp_return eX4_cutChunks_118 ?_
      exact k M Fr.rf (fun _ _ => rfl) (by rw [h3, show d.toNat = nd.toNat by omega]) (fun d' h4 h5 => h3b d' h4 (by omega))
    · omega
  | succ n ih =>
    intro M d x3 x4 h1 h2 e22 e7 e6 er h3 h3b k
    refine wp_iload_n eX4_cutChunks_7 rfl ?_
    refine wp_aload_n eX4_cutChunks_8 rfl ?_
    refine gf_X4_80 eX4_cutChunks_9 ?_
    refine wp_icmp_ge eX4_cutChunks_12 (fun c12 => ?_) (fun c12 => ?_)
    · omega
    · refine wp_aload_n eX4_cutChunks_15 rfl ?_
      refine gf_X4_83 eX4_cutChunks_16 ?_
      refine wp_iload_n eX4_cutChunks_19 rfl ?_
      refine al_7 eX4_cutChunks_20 ?_
      have hf1 := hfr d h2 (by omega)
      rw [e7]
      refine wp_if_le eX4_cutChunks_21 (fun c21 => ?_) (fun c21 => ?_)
      · omega
      · refine wp_aload_n eX4_cutChunks_24 rfl ?_
        refine gf_X4_36 eX4_cutChunks_25 ?_
        refine wp_aload_n eX4_cutChunks_28 rfl ?_
        refine gf_X4_83 eX4_cutChunks_29 ?_
        refine wp_iload_n eX4_cutChunks_32 rfl ?_
        refine al_7 eX4_cutChunks_33 ?_
        rw [er, e7]
        have hq1 := Int.ediv_nonneg (a := r) (b := fr d) (by omega) (by omega)
        have hq2 := Int.ediv_le_self (a := r) (fr d) (by omega)
        refine wp_idiv eX4_cutChunks_34 ?_
        refine wp_goto eX4_cutChunks_35 ?_
        refine ist_3 eX4_cutChunks_39 ?_
        refine wp_aload_n eX4_cutChunks_40 rfl ?_
        refine gf_X4_42 eX4_cutChunks_41 ?_
        refine wp_iload_n eX4_cutChunks_44 rfl ?_
        refine al_22 eX4_cutChunks_45 ?_
        have hm1 := hm d h2 (by omega)
        have he := e22 d h2 (by omega)
        refine wp_if_le eX4_cutChunks_46 (fun c46 => ?_) (fun c46 => ?_)
        · refine wp_iconst eX4_cutChunks_57 ?_
          refine ist_4 eX4_cutChunks_58 ?_
          refine cc60 (r := r) hj hz hnd ⟨h2, by omega⟩ hm e22 rfl ⟨by omega, by omega⟩ (Or.inr ⟨rfl, by omega⟩) ?_
          refine ih _ (d + 1) _ _ (by omega) (by omega) (fun d' h4 h5 => by rw [up_kne (by decide), up_kne (by decide), up_kne (by decide)]; exact e22 d' h4 h5) (by rw [up_kne (by decide), up_kne (by decide), up_kne (by decide)]; exact e7) (by rw [up_kne (by decide), up_kne (by decide), up_kne (by decide)]; exact e6) (by rw [up_v, if_neg (by decide), up_kne (by decide), up_kne (by decide)]; exact er) ?_ (fun d' h4 h5 => ?_) (fun M' hF h8 hs hc => k M' (Fr.tr (Fr.tr (Fr.tr (Fr.up ⟨by decide, rfl⟩) (Fr.up ⟨by decide, rfl⟩)) (Fr.up ⟨by decide, rfl⟩)) hF) (fun f hf => by rw [h8 f hf, up_v, if_neg hf, up_kne (by decide), up_kne (by decide)]) hs hc)
          · rw [up_v, if_pos rfl, h3, show (d + 1).toNat = d.toNat + 1 by omega]
            simp only [sp_sum, Int.toNat_of_nonneg h2]
          · simp only [up_kne (k := 17) (k' := 23) (by decide), up_kne (k := 24) (k' := 23) (by decide), up_kne (k := 17) (k' := 24) (by decide), up_kne (k := 23) (k' := 24) (by decide), up_v]
            by_cases hdd : d' = d
            · subst hdd
              simp only [if_true, h3, and_self]
            · simp only [if_neg hdd]
              exact h3b d' h4 (by omega)
        · refine wp_iload_n eX4_cutChunks_49 rfl ?_
          refine wp_if_le eX4_cutChunks_50 (fun c50 => ?_) (fun c50 => ?_)
          · refine wp_iconst eX4_cutChunks_57 ?_
            refine ist_4 eX4_cutChunks_58 ?_
            refine cc60 (r := r) hj hz hnd ⟨h2, by omega⟩ hm e22 rfl ⟨by omega, by omega⟩ (Or.inr ⟨rfl, by omega⟩) ?_
            refine ih _ (d + 1) _ _ (by omega) (by omega) (fun d' h4 h5 => by rw [up_kne (by decide), up_kne (by decide), up_kne (by decide)]; exact e22 d' h4 h5) (by rw [up_kne (by decide), up_kne (by decide), up_kne (by decide)]; exact e7) (by rw [up_kne (by decide), up_kne (by decide), up_kne (by decide)]; exact e6) (by rw [up_v, if_neg (by decide), up_kne (by decide), up_kne (by decide)]; exact er) ?_ (fun d' h4 h5 => ?_) (fun M' hF h8 hs hc => k M' (Fr.tr (Fr.tr (Fr.tr (Fr.up ⟨by decide, rfl⟩) (Fr.up ⟨by decide, rfl⟩)) (Fr.up ⟨by decide, rfl⟩)) hF) (fun f hf => by rw [h8 f hf, up_v, if_neg hf, up_kne (by decide), up_kne (by decide)]) hs hc)
            · rw [up_v, if_pos rfl, h3, show (d + 1).toNat = d.toNat + 1 by omega]
              simp only [sp_sum, Int.toNat_of_nonneg h2]
            · simp only [up_kne (k := 17) (k' := 23) (by decide), up_kne (k := 24) (k' := 23) (by decide), up_kne (k := 17) (k' := 24) (by decide), up_kne (k := 23) (k' := 24) (by decide), up_v]
              by_cases hdd : d' = d
              · subst hdd
                simp only [if_true, h3, and_self]
              · simp only [if_neg hdd]
                exact h3b d' h4 (by omega)
          · refine wp_iconst eX4_cutChunks_53 ?_
            refine wp_goto eX4_cutChunks_54 ?_
            refine ist_4 eX4_cutChunks_58 ?_
            refine cc60 (r := r) hj hz hnd ⟨h2, by omega⟩ hm e22 rfl ⟨by omega, by omega⟩ (Or.inl ⟨rfl, by omega, by omega⟩) ?_
            refine ih _ (d + 1) _ _ (by omega) (by omega) (fun d' h4 h5 => by rw [up_kne (by decide), up_kne (by decide), up_kne (by decide)]; exact e22 d' h4 h5) (by rw [up_kne (by decide), up_kne (by decide), up_kne (by decide)]; exact e7) (by rw [up_kne (by decide), up_kne (by decide), up_kne (by decide)]; exact e6) (by rw [up_v, if_neg (by decide), up_kne (by decide), up_kne (by decide)]; exact er) ?_ (fun d' h4 h5 => ?_) (fun M' hF h8 hs hc => k M' (Fr.tr (Fr.tr (Fr.tr (Fr.up ⟨by decide, rfl⟩) (Fr.up ⟨by decide, rfl⟩)) (Fr.up ⟨by decide, rfl⟩)) hF) (fun f hf => by rw [h8 f hf, up_v, if_neg hf, up_kne (by decide), up_kne (by decide)]) hs hc)
            · rw [up_v, if_pos rfl, h3, show (d + 1).toNat = d.toNat + 1 by omega]
              simp only [sp_sum, Int.toNat_of_nonneg h2]
            · simp only [up_kne (k := 17) (k' := 23) (by decide), up_kne (k := 24) (k' := 23) (by decide), up_kne (k := 17) (k' := 24) (by decide), up_kne (k := 23) (k' := 24) (by decide), up_v]
              by_cases hdd : d' = d
              · subst hdd
                simp only [if_true, h3, and_self]
              · simp only [if_neg hdd]
                exact h3b d' h4 (by omega)
theorem ct_cutChunks {G : bc_G} {M : bc_M} {post : bc_R → bc_M → Prop} {j z nd r : Int} {mem fr : Int → Int} (hj : 0 ≤ j ∧ j < 2) (hz : 0 ≤ z ∧ z < 13) (hnd : 0 ≤ nd ∧ nd ≤ 4) (hm : ∀ d, 0 ≤ d → d < nd → 0 ≤ mem d ∧ mem d ≤ 16) (hfr : ∀ d, 0 ≤ d → d < nd → 1 ≤ fr d ∧ fr d ≤ 6) (hr : 0 < r ∧ r ≤ 60) (e22 : ∀ d, 0 ≤ d → d < nd → M 22 j d = mem d) (e7 : M 7 z = fr) (e6 : M 6 z 2 = nd) (er : M 17 j 7 = r) (k : (∀ M' : bc_M, Fr (fun k' j' => (k' = 17 ∨ k' = 23 ∨ k' = 24) ∧ j' = j) M M' → (∀ f, f ≠ 8 → M' 17 j f = M 17 j f) → M' 17 j 8 = sp_sum (sp_sz mem fr r) nd.toNat → (∀ d, 0 ≤ d → d < nd → M' 23 j d = sp_sz mem fr r d ∧ M' 24 j d = sp_sum (sp_sz mem fr r) d.toNat) → post (.inr none) M')) : bc_Call G yX4_cutChunks cX4_cutChunks 5 none 2 0 [vR G 17 j, vR G 6 z] M post := by
  refine bc_enter (L := [some (vR G 17 j), some (vR G 6 z), none, none, none]) (by decide) rfl rfl ?_
  refine wp_aload_n eX4_cutChunks_0 rfl ?_
  refine wp_iconst eX4_cutChunks_1 ?_
  refine pf_X4_39 eX4_cutChunks_2 ?_
  refine wp_iconst eX4_cutChunks_5 ?_
  refine ist_2 eX4_cutChunks_6 ?_
  refine lp_cc hj hz hnd hm hfr hr nd.toNat (bc_up M 17 j 8 0) 0 _ _ (by omega) (by omega) (fun d h4 h5 => by rw [up_kne (by decide)]; exact e22 d h4 h5) (by rw [up_kne (by decide)]; exact e7) (by rw [up_kne (by decide)]; exact e6) (by rw [up_v, if_neg (by decide)]; exact er) (by rw [up_v, if_pos rfl]; rfl) (fun d h4 h5 => by omega) (fun M' hF h8 hs hc => k M' (Fr.tr (Fr.up ⟨by decide, rfl⟩) hF) (fun f hf => by rw [h8 f hf, up_v, if_neg hf]) hs hc)
def sp_tm (sg S ln x : Int) : Int := if sg = 0 then x else x + (((x + 1) * sg - 1) / S + 1) * ln
theorem ct_timeOf {G : bc_G} {M : bc_M} {post : bc_R → bc_M → Prop} {j x : Int} (hj : 0 ≤ j ∧ j < 2) (hx : 0 ≤ x ∧ x ≤ 100000) (hg : 0 ≤ M 17 j 2 ∧ M 17 j 2 ≤ 8) (hS : 1 ≤ M 17 j 1 ∧ M 17 j 1 ≤ 100000) (k : post (.inr (some (vI (sp_tm (M 17 j 2) (M 17 j 1) (M 17 j 3) x)))) M) : bc_Call G yX4_timeOf cX4_timeOf 3 (some .int) 1 0 [vR G 17 j, vI x] M post := by
  refine bc_enter (L := [some (vR G 17 j), some (vI x), none]) (by decide) rfl rfl ?_
  refine wp_aload_n eX4_timeOf_0 rfl ?_
  refine gf_X4_18 eX4_timeOf_1 ?_
  refine wp_if_eq eX4_timeOf_4 (fun c4 => ?_) (fun c4 => ?_)
  · have k : post (.inr (some (vI x))) M := by unfold sp_tm at k; rwa [if_pos c4] at k
    refine wp_iload_n eX4_timeOf_15 rfl ?_
    refine wp_ireturn eX4_timeOf_16 ?_
    exact k
  · unfold sp_tm at k; rw [if_neg c4] at k
    refine wp_aload_n eX4_timeOf_7 rfl ?_
    refine gf_X4_15 eX4_timeOf_8 ?_
    refine wp_iconst eX4_timeOf_11 ?_
    refine wp_icmp_ge eX4_timeOf_12 (fun c12 => ?_) (fun c12 => ?_)
    · refine wp_iload_n eX4_timeOf_17 rfl ?_
      refine wp_iconst eX4_timeOf_18 ?_
      refine wp_iadd eX4_timeOf_19 ?_
      refine wp_aload_n eX4_timeOf_20 rfl ?_
      refine gf_X4_18 eX4_timeOf_21 ?_
      have hbm := bm_nn (a := x + 1) (b := M 17 j 2) (A := 100001) (B := 8) (by omega) (by omega)
      have hlow := Int.mul_le_mul_of_nonneg_left (show 1 ≤ M 17 j 2 by omega) (show 0 ≤ x + 1 by omega)
      refine wp_imul eX4_timeOf_24 ?_
      refine wp_iconst eX4_timeOf_25 ?_
      refine wp_isub eX4_timeOf_26 ?_
      refine wp_aload_n eX4_timeOf_27 rfl ?_
      refine gf_X4_15 eX4_timeOf_28 ?_
      refine wp_idiv eX4_timeOf_31 ?_
      refine wp_iconst eX4_timeOf_32 ?_
      refine wp_iadd eX4_timeOf_33 ?_
      refine ist_2 eX4_timeOf_34 ?_
      refine wp_iload_n eX4_timeOf_35 rfl ?_
      refine wp_iload_n eX4_timeOf_36 rfl ?_
      refine wp_aload_n eX4_timeOf_37 rfl ?_
      refine gf_X4_21 eX4_timeOf_38 ?_
      refine wp_imul eX4_timeOf_41 ?_
      refine wp_iadd eX4_timeOf_42 ?_
      refine wp_ireturn eX4_timeOf_43 ?_
      exact k
    · omega
def sp_x (a c b v R o n : Int) : Int := (a / c + n * (b / v)) * R + (o + a % c)
theorem sp_x_rng {a c b v R o n : Int} (ha : 0 ≤ a ∧ a ≤ 16) (hc : 1 ≤ c ∧ c ≤ 16) (hb : 0 ≤ b ∧ b ≤ 60) (hv : 1 ≤ v ∧ v ≤ 6) (hR : 0 ≤ R ∧ R ≤ 64) (ho : 0 ≤ o ∧ o ≤ 64) (hn : 0 ≤ n ∧ n ≤ 6) : 0 ≤ sp_x a c b v R o n ∧ sp_x a c b v R o n ≤ 100000 := by
  unfold sp_x
  have h1 := Int.ediv_nonneg (a := a) (b := c) (by omega) (by omega)
  have h2 := Int.ediv_le_self (a := a) c (by omega)
  have h3 := Int.ediv_nonneg (a := b) (b := v) (by omega) (by omega)
  have h4 := Int.ediv_le_self (a := b) v (by omega)
  have h5 := Int.emod_nonneg a (b := c) (by omega)
  have h6 := Int.emod_lt_of_pos a (b := c) (by omega)
  have h7 := bm_nn (a := n) (b := b / v) (A := 6) (B := 60) (by omega) (by omega)
  have h8 := bm_nn (a := a / c + n * (b / v)) (b := R) (A := 376) (B := 64) (by omega) (by omega)
  omega
theorem lp_pi {G : bc_G} {post : bc_R → bc_M → Prop} {j i d v a c b o R sg S ln : Int} (hj : 0 ≤ j ∧ j < 2) (hi : 0 ≤ i ∧ i < 16) (hv : 1 ≤ v ∧ v ≤ 6) (ha : 0 ≤ a ∧ a ≤ 16) (hc : 1 ≤ c ∧ c ≤ 16) (hb : 0 ≤ b ∧ b ≤ 60) (hR : 0 ≤ R ∧ R ≤ 64) (ho : 0 ≤ o ∧ o ≤ 64) (hg : 0 ≤ sg ∧ sg ≤ 8) (hS : 1 ≤ S ∧ S ≤ 100000) : ∀ (n : Nat) (M : bc_M) (q : Int) (h1 : q + n = v) (h2 : 0 ≤ q) (e1 : M 17 j 1 = S) (e2 : M 17 j 2 = sg) (e3 : M 17 j 3 = ln) (e8 : M 17 j 8 = R) (h3 : ∀ n, 0 ≤ n → n < q → M 21 (16 * j + i) n = sp_tm sg S ln (sp_x a c b v R o n)) (k : ∀ M' : bc_M, Fr (at1 21 (16 * j + i)) M M' → (∀ n, 0 ≤ n → n < v → M' 21 (16 * j + i) n = sp_tm sg S ln (sp_x a c b v R o n)) → post (.inr none) M'), bc_W G RX4 cX4_placeItem 8 none 2 0 0 77 [some (vR G 17 j), some (vI i), some (vI d), some (vI v), some (vI (a / c)), some (vI (o + a % c)), some (vI (b / v)), some (vI q)] [] M post := by
  intro n
  induction n with
  | zero =>
    intro M q h1 h2 e1 e2 e3 e8 h3 k
    refine wp_iload eX4_placeItem_77 rfl ?_
    refine wp_iload_n eX4_placeItem_79 rfl ?_
    refine wp_icmp_ge eX4_placeItem_80 (fun c80 => ?_) (fun c80 => ?_)
    · refine wp_return eX4_placeItem_118 ?_
      exact k M Fr.rf (fun n h4 h5 => h3 n h4 (by omega))
    · omega
  | succ n ih =>
    intro M q h1 h2 e1 e2 e3 e8 h3 k
    refine wp_iload eX4_placeItem_77 rfl ?_
    refine wp_iload_n eX4_placeItem_79 rfl ?_
    refine wp_icmp_ge eX4_placeItem_80 (fun c80 => ?_) (fun c80 => ?_)
    · omega
    · refine wp_aload_n eX4_placeItem_83 rfl ?_
      refine gf_X4_33 eX4_placeItem_84 ?_
      refine wp_iload_n eX4_placeItem_87 rfl ?_
      refine al_20 eX4_placeItem_88 ?_
      refine wp_iload eX4_placeItem_89 rfl ?_
      refine wp_aload_n eX4_placeItem_91 rfl ?_
      refine wp_iload eX4_placeItem_92 rfl ?_
      refine wp_iload eX4_placeItem_94 rfl ?_
      refine wp_iload eX4_placeItem_96 rfl ?_
      refine wp_imul eX4_placeItem_98 ?_
      refine wp_iadd eX4_placeItem_99 ?_
      refine wp_aload_n eX4_placeItem_100 rfl ?_
      refine gf_X4_39 eX4_placeItem_101 ?_
      rw [e8]
      have hx := sp_x_rng ha hc hb hv hR ho (n := q) (by omega)
      refine wp_imul eX4_placeItem_104 ?_
      refine wp_iload eX4_placeItem_105 rfl ?_
      refine wp_iadd eX4_placeItem_107 ?_
      refine c_X4_93 eX4_placeItem_108 (ct_timeOf (x := sp_x a c b v R o q) hj hx (by omega) (by omega) ?_)
      rw [e1, e2, e3]
      refine as_21 eX4_placeItem_111 ?_
      refine inc_7 eX4_placeItem_112 ?_
      refine wp_goto eX4_placeItem_115 ?_
      refine ih _ (q + 1) (by omega) (by omega) (by rw [up_kne (by decide)]; exact e1) (by rw [up_kne (by decide)]; exact e2) (by rw [up_kne (by decide)]; exact e3) (by rw [up_kne (by decide)]; exact e8) (fun n h4 h5 => ?_) (fun M' hF h => k M' (Fr.tr (Fr.up ⟨rfl, rfl⟩) hF) h)
      rw [up_v]
      split
      · rename_i hx9; rw [hx9]
      · exact h3 n h4 (by omega)
theorem ct_placeItem {G : bc_G} {M : bc_M} {post : bc_R → bc_M → Prop} {j i d v a c b o R sg S ln : Int} (hj : 0 ≤ j ∧ j < 2) (hi : 0 ≤ i ∧ i < 16) (hv : 1 ≤ v ∧ v ≤ 6) (ha : 0 ≤ a ∧ a ≤ 16) (hc : 1 ≤ c ∧ c ≤ 16) (hb : 0 ≤ b ∧ b ≤ 60) (hR : 0 ≤ R ∧ R ≤ 64) (ho : 0 ≤ o ∧ o ≤ 64) (hg : 0 ≤ sg ∧ sg ≤ 8) (hS : 1 ≤ S ∧ S ≤ 100000) (hd : 0 ≤ d ∧ d < 4) (e1 : M 17 j 1 = S) (e2 : M 17 j 2 = sg) (e3 : M 17 j 3 = ln) (e8 : M 17 j 8 = R) (ec : M 23 j d = c) (ea : M 22 j d = a) (eo : M 24 j d = o) (eb : M 17 j 7 = b) (k : ∀ M' : bc_M, Fr (fun k' j' => (k' = 19 ∧ j' = j) ∨ (k' = 21 ∧ j' = 16 * j + i)) M M' → (∀ q, M' 19 j q = if q = i then v else M 19 j q) → (∀ n, 0 ≤ n → n < v → M' 21 (16 * j + i) n = sp_tm sg S ln (sp_x a c b v R o n)) → post (.inr none) M') : bc_Call G yX4_placeItem cX4_placeItem 8 none 2 0 [vR G 17 j, vI i, vI d, vI v] M post := by
  refine bc_enter (L := [some (vR G 17 j), some (vI i), some (vI d), some (vI v), none, none, none, none]) (by decide) rfl rfl ?_
  refine wp_aload_n eX4_placeItem_0 rfl ?_
  refine gf_X4_45 eX4_placeItem_1 ?_
  refine wp_iload_n eX4_placeItem_4 rfl ?_
  refine al_23 eX4_placeItem_5 ?_
  refine wp_iconst eX4_placeItem_6 ?_
  rw [ec]
  refine wp_icmp_lt eX4_placeItem_7 (fun c7 => ?_) (fun c7 => ?_)
  · omega
  · refine wp_iload_n eX4_placeItem_10 rfl ?_
    refine wp_iconst eX4_placeItem_11 ?_
    refine wp_icmp_lt eX4_placeItem_12 (fun c12 => ?_) (fun c12 => ?_)
    · omega
    · refine wp_iload_n eX4_placeItem_15 rfl ?_
      refine wp_bipush eX4_placeItem_16 ?_
      refine wp_icmp_le eX4_placeItem_18 (fun c18 => ?_) (fun c18 => ?_)
      · refine wp_aload_n eX4_placeItem_22 rfl ?_
        refine gf_X4_42 eX4_placeItem_23 ?_
        refine wp_iload_n eX4_placeItem_26 rfl ?_
        refine al_22 eX4_placeItem_27 ?_
        refine wp_aload_n eX4_placeItem_28 rfl ?_
        refine gf_X4_45 eX4_placeItem_29 ?_
        refine wp_iload_n eX4_placeItem_32 rfl ?_
        refine al_23 eX4_placeItem_33 ?_
        rw [ea, ec]
        refine wp_idiv eX4_placeItem_34 ?_
        refine ist_4 eX4_placeItem_35 ?_
        refine wp_aload_n eX4_placeItem_37 rfl ?_
        refine gf_X4_48 eX4_placeItem_38 ?_
        refine wp_iload_n eX4_placeItem_41 rfl ?_
        refine al_24 eX4_placeItem_42 ?_
        refine wp_aload_n eX4_placeItem_43 rfl ?_
        refine gf_X4_42 eX4_placeItem_44 ?_
        refine wp_iload_n eX4_placeItem_47 rfl ?_
        refine al_22 eX4_placeItem_48 ?_
        refine wp_aload_n eX4_placeItem_49 rfl ?_
        refine gf_X4_45 eX4_placeItem_50 ?_
        refine wp_iload_n eX4_placeItem_53 rfl ?_
        refine al_23 eX4_placeItem_54 ?_
        rw [eo, ea, ec]
        refine wp_irem eX4_placeItem_55 ?_
        refine wp_iadd eX4_placeItem_56 ?_
        refine ist_5 eX4_placeItem_57 ?_
        refine wp_aload_n eX4_placeItem_59 rfl ?_
        refine gf_X4_36 eX4_placeItem_60 ?_
        refine wp_iload_n eX4_placeItem_63 rfl ?_
        rw [eb]
        refine wp_idiv eX4_placeItem_64 ?_
        refine ist_6 eX4_placeItem_65 ?_
        refine wp_aload_n eX4_placeItem_67 rfl ?_
        refine gf_X4_28 eX4_placeItem_68 ?_
        refine wp_iload_n eX4_placeItem_71 rfl ?_
        refine wp_iload_n eX4_placeItem_72 rfl ?_
        refine as_19 eX4_placeItem_73 ?_
        refine wp_iconst eX4_placeItem_74 ?_
        refine ist_7 eX4_placeItem_75 ?_
        refine lp_pi hj hi hv ha hc hb hR ho hg hS v.toNat (bc_up M 19 j i v) 0 (by omega) (by omega) (by rw [up_kne (by decide)]; exact e1) (by rw [up_kne (by decide)]; exact e2) (by rw [up_kne (by decide)]; exact e3) (by rw [up_kne (by decide)]; exact e8) (fun n h4 h5 => by omega) (fun M' hF h => k M' (Fr.tr (Fr.up (Or.inl ⟨rfl, rfl⟩)) (hF.mono (fun k' j' h => Or.inr h))) (fun q => ?_) h)
        rw [hF 19 j (by simp [at1]), up_v]
      · omega
