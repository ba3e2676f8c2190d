theorem p_pa_0 {b : Int → Int} {len : Int} {σ : bl_s} (h : (p_pa b len σ).1 = 0) : σ.1 = 0 := by
  have h1 := p_a_0 h
  split at h1
  · exact absurd h1 (p_f_ne (by decide))
  · exact h1
set_option maxHeartbeats 2000000 in
theorem lp_readClients {G : bc_G} {M : bc_M} {post : bc_R → bc_M → Prop} {b : Int → Int} {len : Int} (hb : BT M b len) : ∀ (n : Nat) (c : Int) (σ : bl_s) (g Dm Dd : Int → Int) (y : Option Value) (h1 : c + n = 5) (h2 : 0 ≤ c ∧ c ≤ 4) (hF : ∀ f, (f < 13 ∨ 18 < f) → f ≠ 22 → g f = M 33 0 f) (hP : PG g len σ) (hσ : SG len σ) (hc : g 22 = c) (hD : σ.1 = 0 → ∀ q, 0 ≤ q → q < 62 → Dm q = Dd q) (k : ∀ g' D' : Int → Int, (∀ f, (f < 13 ∨ 18 < f) → f ≠ 22 → g' f = M 33 0 f) → PG g' len (clL b len n c σ Dd).1 → g' 22 = (clL b len n c σ Dd).2.1 → ((clL b len n c σ Dd).1.1 = 0 → ∀ q, 0 ≤ q → q < 62 → D' q = (clL b len n c σ Dd).2.2 q) → post (.inr none) (ME M g' D')), bc_W G RX9 cX9_readClients 2 none 6 0 0 5 [some (vR G 33 0), y] [] (ME M g Dm) post := by
  intro n
  induction n with
  | zero =>
    intro c σ g Dm Dd y h1 h2 hF hP hσ hc hD k
    have hl := hb.2
    refine wp_aload_n eX9_readClients_5 rfl ?_
    refine wp_ldcS (ti := 3) (tx := "client") eX9_readClients_6 (by decide +kernel) ?_
    refine c_X9_151 eX9_readClients_8 (ct_isWord (ME_bt hb) (by rw [ME_33]; exact hP) hσ (ti := 3) (by decide) ?_)
    refine wp_if_eq eX9_readClients_11 (fun c11 => ?_) (fun c11 => ?_) (by split <;> omega)
    · omega
    · omega
  | succ n ih =>
    intro c σ g Dm Dd y h1 h2 hF hP hσ hc hD k
    have hl := hb.2
    refine wp_aload_n eX9_readClients_5 rfl ?_
    refine wp_ldcS (ti := 3) (tx := "client") eX9_readClients_6 (by decide +kernel) ?_
    refine c_X9_151 eX9_readClients_8 (ct_isWord (ME_bt hb) (by rw [ME_33]; exact hP) hσ (ti := 3) (by decide) ?_)
    refine wp_if_eq eX9_readClients_11 (fun c11 => ?_) (fun c11 => ?_) (by split <;> omega)
    · have hw : ¬ p_w b 3 σ = true := by
        intro h9
        rw [if_pos h9] at c11
        exact absurd c11 (by decide)
      refine wp_return eX9_readClients_139 ?_
      have hk9 : (clL b len (n + 1) c σ Dd) = (σ, c, Dd) := by
        simp only [clL]
        rw [if_neg hw]
      rw [hk9] at k
      exact k g Dm hF hP hc hD
    · have hw : p_w b 3 σ = true := by
        apply Decidable.byContradiction
        intro h9
        rw [if_neg h9] at c11
        exact absurd rfl c11
      refine wp_aload_n eX9_readClients_14 rfl ?_
      refine gf_X9_172 eX9_readClients_15 ?_
      rw [ME_33, hc]
      refine wp_iconst eX9_readClients_18 ?_
      refine wp_icmp_ne eX9_readClients_19 (fun c19 => ?_) (fun c19 => ?_)
      · refine wp_aload_n eX9_readClients_28 rfl ?_
        refine c_X9_146 eX9_readClients_29 (ct_next (ME_bt hb) (by rw [ME_33]; exact hP) hσ (fun g2 n2 p2 => ?_))
        rw [ME_33] at n2
        rw [ME_g]
        have s2 := hσ.a (b := b)
        have hc2 : g2 22 = c := by rw [n2 22 (by decide)]; exact hc
        refine wp_bipush eX9_readClients_32 ?_
        refine wp_iconst eX9_readClients_34 ?_
        refine wp_aload_n eX9_readClients_35 rfl ?_
        refine gf_X9_172 eX9_readClients_36 ?_
        rw [ME_33, hc2]
        refine wp_imul eX9_readClients_39 ?_
        refine wp_iadd eX9_readClients_40 ?_
        refine ist_1 eX9_readClients_41 ?_
        refine wp_aload_n eX9_readClients_42 rfl ?_
        refine gf_X9_29 eX9_readClients_43 ?_
        refine wp_iload_n eX9_readClients_46 rfl ?_
        refine wp_aload_n eX9_readClients_47 rfl ?_
        refine wp_iconst eX9_readClients_48 ?_
        refine wp_iconst eX9_readClients_49 ?_
        refine c_X9_155 eX9_readClients_50 (ct_read (by decide) (by omega) (ME_bt hb) (by rw [ME_33]; exact p2) s2 (fun g3 n3 p3 v3 hv3 => ?_))
        rw [ME_33] at n3
        rw [ME_g]
        have s3 := s2.n (b := b) (lo := 0) (hi := 4)
        refine as_39 eX9_readClients_53 ?_
        rw [ME_d]
        refine wp_aload_n eX9_readClients_54 rfl ?_
        refine gf_X9_29 eX9_readClients_55 ?_
        refine wp_iload_n eX9_readClients_58 rfl ?_
        refine wp_iconst eX9_readClients_59 ?_
        refine wp_iadd eX9_readClients_60 ?_
        refine wp_aload_n eX9_readClients_61 rfl ?_
        refine wp_ldcS (ti := 6) (tx := "lru") eX9_readClients_62 (by decide +kernel) ?_
        refine c_X9_151 eX9_readClients_64 (ct_isWord (ME_bt hb) (by rw [ME_33]; exact p3) s3 (ti := 6) (by decide) ?_)
        refine wp_if_eq eX9_readClients_67 (fun c67 => ?_) (fun c67 => ?_) (by split <;> omega)
        · have w6 : ¬ p_w b 6 (p_n b len 0 4 (p_a b len σ)) = true := by
            intro h9
            rw [if_pos h9] at c67
            exact absurd c67 (by decide)
          refine wp_aload_n eX9_readClients_74 rfl ?_
          refine wp_ldcS (ti := 4) (tx := "lfu") eX9_readClients_75 (by decide +kernel) ?_
          refine c_X9_151 eX9_readClients_77 (ct_isWord (ME_bt hb) (by rw [ME_33]; exact p3) s3 (ti := 4) (by decide) ?_)
          refine wp_if_eq eX9_readClients_80 (fun c80 => ?_) (fun c80 => ?_) (by split <;> omega)
          · have w4 : ¬ p_w b 4 (p_n b len 0 4 (p_a b len σ)) = true := by
              intro h9
              rw [if_pos h9] at c80
              exact absurd c80 (by decide)
            refine wp_aload_n eX9_readClients_87 rfl ?_
            refine wp_ldcS (ti := 5) (tx := "pix") eX9_readClients_88 (by decide +kernel) ?_
            refine c_X9_151 eX9_readClients_90 (ct_isWord (ME_bt hb) (by rw [ME_33]; exact p3) s3 (ti := 5) (by decide) ?_)
            refine wp_if_eq eX9_readClients_93 (fun c93 => ?_) (fun c93 => ?_) (by split <;> omega)
            · have w5 : ¬ p_w b 5 (p_n b len 0 4 (p_a b len σ)) = true := by
                intro h9
                rw [if_pos h9] at c93
                exact absurd c93 (by decide)
              have hpo : p_po b (p_n b len 0 4 (p_a b len σ)) = -1 := by
                unfold p_po
                rw [if_neg w6, if_neg w4, if_neg w5]
              refine wp_iconst eX9_readClients_100 ?_
              refine as_39 eX9_readClients_101 ?_
              rw [ME_d]
              refine wp_aload_n eX9_readClients_102 rfl ?_
              refine gf_X9_29 eX9_readClients_103 ?_
              refine wp_iload_n eX9_readClients_106 rfl ?_
              refine wp_iconst eX9_readClients_107 ?_
              refine wp_iadd eX9_readClients_108 ?_
              refine al_39 eX9_readClients_109 ?_
              rw [ME_39, u_at]
              refine wp_if_ge eX9_readClients_110 (fun c110 => ?_) (fun c110 => ?_)
              · exact absurd c110 (by decide)
              · refine wp_aload_n eX9_readClients_113 rfl ?_
                refine wp_iconst eX9_readClients_114 ?_
                refine c_X9_143 eX9_readClients_115 (ct_fail (c := 1) (by decide) (by rw [ME_33]; exact p3) s3 (fun g4 n4 p4 => ?_))
                rw [ME_33] at n4
                rw [ME_g]
                have s4 := s3.f (c := 1) (by decide)
                refine wp_aload_n eX9_readClients_118 rfl ?_
                refine c_X9_146 eX9_readClients_119 (ct_next (ME_bt hb) (by rw [ME_33]; exact p4) s4 (fun g5 n5 p5 => ?_))
                rw [ME_33] at n5
                rw [ME_g]
                have hpa : p_a b len (p_f 1 (p_n b len 0 4 (p_a b len σ))) = p_pa b len (p_n b len 0 4 (p_a b len σ)) := by unfold p_pa; rw [hpo, if_pos (by decide)]
                rw [hpa] at p5
                have s5 : SG len (p_pa b len (p_n b len 0 4 (p_a b len σ))) := by rw [← hpa]; exact s4.a
                refine wp_aload_n eX9_readClients_122 rfl ?_
                refine c_X9_159 eX9_readClients_123 (ct_expectSemi (ME_bt hb) (by rw [ME_33]; exact p5) s5 (fun g6 n6 p6 => ?_))
                rw [ME_33] at n6
                rw [ME_g]
                have hcn : g6 22 = c := by rw [n6 22 (by decide), n5 22 (by decide), n4 22 (by decide), n3 22 (by decide)]; exact hc2
                refine wp_aload_n eX9_readClients_126 rfl ?_
                refine wp_dup eX9_readClients_127 ?_
                refine gf_X9_172 eX9_readClients_128 ?_
                rw [ME_33, hcn]
                refine wp_iconst eX9_readClients_131 ?_
                refine wp_iadd eX9_readClients_132 ?_
                refine pf_X9_172 eX9_readClients_133 ?_
                refine wp_goto eX9_readClients_136 ?_
                rw [ME_f]
                have hk9 : (clL b len (n + 1) c σ Dd) = (clL b len n (c + 1) (p_s b len (p_pa b len (p_n b len 0 4 (p_a b len σ)))) (bc_u (bc_u Dd (54 + 2 * c) (p_a b len σ).2.2.2.2) (54 + 2 * c + 1) (p_po b (p_n b len 0 4 (p_a b len σ))))) := by
                  simp only [clL]
                  rw [if_pos hw, if_neg (by omega)]
                rw [hk9] at k
                refine ih (c + 1) _ (bc_u g6 22 (c + 1)) (bc_u (bc_u Dm (54 + 2 * c) v3) (54 + 2 * c + 1) (-1)) (bc_u (bc_u Dd (54 + 2 * c) (p_a b len σ).2.2.2.2) (54 + 2 * c + 1) (p_po b (p_n b len 0 4 (p_a b len σ)))) _ (by omega) (by omega) (fun f a b9 => ?_) ?_ s5.s (by rw [u_at]) (fun z q a b9 => ?_) k
                · rw [u_ne b9, n6 f a, n5 f a, n4 f a, n3 f a, n2 f a]; exact hF f a b9
                · obtain ⟨a1, a2, a3, a4, a5, a6, a7⟩ := p6
                  exact ⟨by rw [u_ne (by decide)]; exact a1, by rw [u_ne (by decide)]; exact a2, by rw [u_ne (by decide)]; exact a3, by rw [u_ne (by decide)]; exact a4, by rw [u_ne (by decide)]; exact a5, fun z => by rw [u_ne (by decide)]; exact a6 z, by rw [u_ne (by decide)]; exact a7⟩
                · have z1 := p_pa_0 (p_s_0 z)
                  have e3 := hv3 z1
                  have hD0 := hD (p_a_0 (p_n_0 z1))
                  rw [e3, hpo]
                  simp only [bc_u]
                  rw [hD0 q a b9]
            · have w5 : p_w b 5 (p_n b len 0 4 (p_a b len σ)) = true := by
                apply Decidable.byContradiction
                intro h9
                rw [if_neg h9] at c93
                exact absurd rfl c93
              have hpo : p_po b (p_n b len 0 4 (p_a b len σ)) = 2 := by
                unfold p_po
                rw [if_neg w6, if_neg w4, if_pos w5]
              refine wp_iconst eX9_readClients_96 ?_
              refine wp_goto eX9_readClients_97 ?_
              refine as_39 eX9_readClients_101 ?_
              rw [ME_d]
              refine wp_aload_n eX9_readClients_102 rfl ?_
              refine gf_X9_29 eX9_readClients_103 ?_
              refine wp_iload_n eX9_readClients_106 rfl ?_
              refine wp_iconst eX9_readClients_107 ?_
              refine wp_iadd eX9_readClients_108 ?_
              refine al_39 eX9_readClients_109 ?_
              rw [ME_39, u_at]
              refine wp_if_ge eX9_readClients_110 (fun c110 => ?_) (fun c110 => ?_)
              · have n4 : NF g3 g3 := NF.rf
                have p4 := p3
                have s4 := s3
                refine wp_aload_n eX9_readClients_118 rfl ?_
                refine c_X9_146 eX9_readClients_119 (ct_next (ME_bt hb) (by rw [ME_33]; exact p4) s4 (fun g5 n5 p5 => ?_))
                rw [ME_33] at n5
                rw [ME_g]
                have hpa : p_a b len (p_n b len 0 4 (p_a b len σ)) = p_pa b len (p_n b len 0 4 (p_a b len σ)) := by unfold p_pa; rw [hpo, if_neg (by decide)]
                rw [hpa] at p5
                have s5 : SG len (p_pa b len (p_n b len 0 4 (p_a b len σ))) := by rw [← hpa]; exact s4.a
                refine wp_aload_n eX9_readClients_122 rfl ?_
                refine c_X9_159 eX9_readClients_123 (ct_expectSemi (ME_bt hb) (by rw [ME_33]; exact p5) s5 (fun g6 n6 p6 => ?_))
                rw [ME_33] at n6
                rw [ME_g]
                have hcn : g6 22 = c := by rw [n6 22 (by decide), n5 22 (by decide), n4 22 (by decide), n3 22 (by decide)]; exact hc2
                refine wp_aload_n eX9_readClients_126 rfl ?_
                refine wp_dup eX9_readClients_127 ?_
                refine gf_X9_172 eX9_readClients_128 ?_
                rw [ME_33, hcn]
                refine wp_iconst eX9_readClients_131 ?_
                refine wp_iadd eX9_readClients_132 ?_
                refine pf_X9_172 eX9_readClients_133 ?_
                refine wp_goto eX9_readClients_136 ?_
                rw [ME_f]
                have hk9 : (clL b len (n + 1) c σ Dd) = (clL b len n (c + 1) (p_s b len (p_pa b len (p_n b len 0 4 (p_a b len σ)))) (bc_u (bc_u Dd (54 + 2 * c) (p_a b len σ).2.2.2.2) (54 + 2 * c + 1) (p_po b (p_n b len 0 4 (p_a b len σ))))) := by
                  simp only [clL]
                  rw [if_pos hw, if_neg (by omega)]
                rw [hk9] at k
                refine ih (c + 1) _ (bc_u g6 22 (c + 1)) (bc_u (bc_u Dm (54 + 2 * c) v3) (54 + 2 * c + 1) (2)) (bc_u (bc_u Dd (54 + 2 * c) (p_a b len σ).2.2.2.2) (54 + 2 * c + 1) (p_po b (p_n b len 0 4 (p_a b len σ)))) _ (by omega) (by omega) (fun f a b9 => ?_) ?_ s5.s (by rw [u_at]) (fun z q a b9 => ?_) k
                · rw [u_ne b9, n6 f a, n5 f a, n4 f a, n3 f a, n2 f a]; exact hF f a b9
                · obtain ⟨a1, a2, a3, a4, a5, a6, a7⟩ := p6
                  exact ⟨by rw [u_ne (by decide)]; exact a1, by rw [u_ne (by decide)]; exact a2, by rw [u_ne (by decide)]; exact a3, by rw [u_ne (by decide)]; exact a4, by rw [u_ne (by decide)]; exact a5, fun z => by rw [u_ne (by decide)]; exact a6 z, by rw [u_ne (by decide)]; exact a7⟩
                · have z1 := p_pa_0 (p_s_0 z)
                  have e3 := hv3 z1
                  have hD0 := hD (p_a_0 (p_n_0 z1))
                  rw [e3, hpo]
                  simp only [bc_u]
                  rw [hD0 q a b9]
              · exact absurd (by decide) c110
          · have w4 : p_w b 4 (p_n b len 0 4 (p_a b len σ)) = true := by
              apply Decidable.byContradiction
              intro h9
              rw [if_neg h9] at c80
              exact absurd rfl c80
            have hpo : p_po b (p_n b len 0 4 (p_a b len σ)) = 1 := by
              unfold p_po
              rw [if_neg w6, if_pos w4]
            refine wp_iconst eX9_readClients_83 ?_
            refine wp_goto eX9_readClients_84 ?_
            refine as_39 eX9_readClients_101 ?_
            rw [ME_d]
            refine wp_aload_n eX9_readClients_102 rfl ?_
            refine gf_X9_29 eX9_readClients_103 ?_
            refine wp_iload_n eX9_readClients_106 rfl ?_
            refine wp_iconst eX9_readClients_107 ?_
            refine wp_iadd eX9_readClients_108 ?_
            refine al_39 eX9_readClients_109 ?_
            rw [ME_39, u_at]
            refine wp_if_ge eX9_readClients_110 (fun c110 => ?_) (fun c110 => ?_)
            · have n4 : NF g3 g3 := NF.rf
              have p4 := p3
              have s4 := s3
              refine wp_aload_n eX9_readClients_118 rfl ?_
              refine c_X9_146 eX9_readClients_119 (ct_next (ME_bt hb) (by rw [ME_33]; exact p4) s4 (fun g5 n5 p5 => ?_))
              rw [ME_33] at n5
              rw [ME_g]
              have hpa : p_a b len (p_n b len 0 4 (p_a b len σ)) = p_pa b len (p_n b len 0 4 (p_a b len σ)) := by unfold p_pa; rw [hpo, if_neg (by decide)]
              rw [hpa] at p5
              have s5 : SG len (p_pa b len (p_n b len 0 4 (p_a b len σ))) := by rw [← hpa]; exact s4.a
              refine wp_aload_n eX9_readClients_122 rfl ?_
              refine c_X9_159 eX9_readClients_123 (ct_expectSemi (ME_bt hb) (by rw [ME_33]; exact p5) s5 (fun g6 n6 p6 => ?_))
              rw [ME_33] at n6
              rw [ME_g]
              have hcn : g6 22 = c := by rw [n6 22 (by decide), n5 22 (by decide), n4 22 (by decide), n3 22 (by decide)]; exact hc2
              refine wp_aload_n eX9_readClients_126 rfl ?_
              refine wp_dup eX9_readClients_127 ?_
              refine gf_X9_172 eX9_readClients_128 ?_
              rw [ME_33, hcn]
              refine wp_iconst eX9_readClients_131 ?_
              refine wp_iadd eX9_readClients_132 ?_
              refine pf_X9_172 eX9_readClients_133 ?_
              refine wp_goto eX9_readClients_136 ?_
              rw [ME_f]
              have hk9 : (clL b len (n + 1) c σ Dd) = (clL b len n (c + 1) (p_s b len (p_pa b len (p_n b len 0 4 (p_a b len σ)))) (bc_u (bc_u Dd (54 + 2 * c) (p_a b len σ).2.2.2.2) (54 + 2 * c + 1) (p_po b (p_n b len 0 4 (p_a b len σ))))) := by
                simp only [clL]
                rw [if_pos hw, if_neg (by omega)]
              rw [hk9] at k
              refine ih (c + 1) _ (bc_u g6 22 (c + 1)) (bc_u (bc_u Dm (54 + 2 * c) v3) (54 + 2 * c + 1) (1)) (bc_u (bc_u Dd (54 + 2 * c) (p_a b len σ).2.2.2.2) (54 + 2 * c + 1) (p_po b (p_n b len 0 4 (p_a b len σ)))) _ (by omega) (by omega) (fun f a b9 => ?_) ?_ s5.s (by rw [u_at]) (fun z q a b9 => ?_) k
              · rw [u_ne b9, n6 f a, n5 f a, n4 f a, n3 f a, n2 f a]; exact hF f a b9
              · obtain ⟨a1, a2, a3, a4, a5, a6, a7⟩ := p6
                exact ⟨by rw [u_ne (by decide)]; exact a1, by rw [u_ne (by decide)]; exact a2, by rw [u_ne (by decide)]; exact a3, by rw [u_ne (by decide)]; exact a4, by rw [u_ne (by decide)]; exact a5, fun z => by rw [u_ne (by decide)]; exact a6 z, by rw [u_ne (by decide)]; exact a7⟩
              · have z1 := p_pa_0 (p_s_0 z)
                have e3 := hv3 z1
                have hD0 := hD (p_a_0 (p_n_0 z1))
                rw [e3, hpo]
                simp only [bc_u]
                rw [hD0 q a b9]
            · exact absurd (by decide) c110
        · have w6 : p_w b 6 (p_n b len 0 4 (p_a b len σ)) = true := by
            apply Decidable.byContradiction
            intro h9
            rw [if_neg h9] at c67
            exact absurd rfl c67
          have hpo : p_po b (p_n b len 0 4 (p_a b len σ)) = 0 := by
            unfold p_po
            rw [if_pos w6]
          refine wp_iconst eX9_readClients_70 ?_
          refine wp_goto eX9_readClients_71 ?_
          refine as_39 eX9_readClients_101 ?_
          rw [ME_d]
          refine wp_aload_n eX9_readClients_102 rfl ?_
          refine gf_X9_29 eX9_readClients_103 ?_
          refine wp_iload_n eX9_readClients_106 rfl ?_
          refine wp_iconst eX9_readClients_107 ?_
          refine wp_iadd eX9_readClients_108 ?_
          refine al_39 eX9_readClients_109 ?_
          rw [ME_39, u_at]
          refine wp_if_ge eX9_readClients_110 (fun c110 => ?_) (fun c110 => ?_)
          · have n4 : NF g3 g3 := NF.rf
            have p4 := p3
            have s4 := s3
            refine wp_aload_n eX9_readClients_118 rfl ?_
            refine c_X9_146 eX9_readClients_119 (ct_next (ME_bt hb) (by rw [ME_33]; exact p4) s4 (fun g5 n5 p5 => ?_))
            rw [ME_33] at n5
            rw [ME_g]
            have hpa : p_a b len (p_n b len 0 4 (p_a b len σ)) = p_pa b len (p_n b len 0 4 (p_a b len σ)) := by unfold p_pa; rw [hpo, if_neg (by decide)]
            rw [hpa] at p5
            have s5 : SG len (p_pa b len (p_n b len 0 4 (p_a b len σ))) := by rw [← hpa]; exact s4.a
            refine wp_aload_n eX9_readClients_122 rfl ?_
            refine c_X9_159 eX9_readClients_123 (ct_expectSemi (ME_bt hb) (by rw [ME_33]; exact p5) s5 (fun g6 n6 p6 => ?_))
            rw [ME_33] at n6
            rw [ME_g]
            have hcn : g6 22 = c := by rw [n6 22 (by decide), n5 22 (by decide), n4 22 (by decide), n3 22 (by decide)]; exact hc2
            refine wp_aload_n eX9_readClients_126 rfl ?_
            refine wp_dup eX9_readClients_127 ?_
            refine gf_X9_172 eX9_readClients_128 ?_
            rw [ME_33, hcn]
            refine wp_iconst eX9_readClients_131 ?_
            refine wp_iadd eX9_readClients_132 ?_
            refine pf_X9_172 eX9_readClients_133 ?_
            refine wp_goto eX9_readClients_136 ?_
            rw [ME_f]
            have hk9 : (clL b len (n + 1) c σ Dd) = (clL b len n (c + 1) (p_s b len (p_pa b len (p_n b len 0 4 (p_a b len σ)))) (bc_u (bc_u Dd (54 + 2 * c) (p_a b len σ).2.2.2.2) (54 + 2 * c + 1) (p_po b (p_n b len 0 4 (p_a b len σ))))) := by
              simp only [clL]
              rw [if_pos hw, if_neg (by omega)]
            rw [hk9] at k
            refine ih (c + 1) _ (bc_u g6 22 (c + 1)) (bc_u (bc_u Dm (54 + 2 * c) v3) (54 + 2 * c + 1) (0)) (bc_u (bc_u Dd (54 + 2 * c) (p_a b len σ).2.2.2.2) (54 + 2 * c + 1) (p_po b (p_n b len 0 4 (p_a b len σ)))) _ (by omega) (by omega) (fun f a b9 => ?_) ?_ s5.s (by rw [u_at]) (fun z q a b9 => ?_) k
            · rw [u_ne b9, n6 f a, n5 f a, n4 f a, n3 f a, n2 f a]; exact hF f a b9
            · obtain ⟨a1, a2, a3, a4, a5, a6, a7⟩ := p6
              exact ⟨by rw [u_ne (by decide)]; exact a1, by rw [u_ne (by decide)]; exact a2, by rw [u_ne (by decide)]; exact a3, by rw [u_ne (by decide)]; exact a4, by rw [u_ne (by decide)]; exact a5, fun z => by rw [u_ne (by decide)]; exact a6 z, by rw [u_ne (by decide)]; exact a7⟩
            · have z1 := p_pa_0 (p_s_0 z)
              have e3 := hv3 z1
              have hD0 := hD (p_a_0 (p_n_0 z1))
              rw [e3, hpo]
              simp only [bc_u]
              rw [hD0 q a b9]
          · exact absurd (by decide) c110
      · refine wp_aload_n eX9_readClients_22 rfl ?_
        refine wp_iconst eX9_readClients_23 ?_
        refine c_X9_143 eX9_readClients_24 (ct_fail (c := 3) (by decide) (by rw [ME_33]; exact hP) hσ (fun g1 n1 p1 => ?_))
        rw [ME_33] at n1
        rw [ME_g]
        refine wp_return eX9_readClients_27 ?_
        have hk9 : (clL b len (n + 1) c σ Dd) = (p_f 3 σ, c, Dd) := by
          simp only [clL]
          rw [if_pos hw, if_pos (by omega)]
        rw [hk9] at k
        exact k g1 Dm (fun f a b => by rw [n1 f a]; exact hF f a b) p1 (by rw [n1 22 (by decide)]; exact hc) (fun z => absurd z (p_f_ne (by decide)))
theorem ct_readClients {G : bc_G} {M : bc_M} {post : bc_R → bc_M → Prop} {b : Int → Int} {len : Int} (hb : BT M b len) {σ : bl_s} (hP : PG (M 33 0) len σ) (hσ : SG len σ) (k : ∀ g' D' : Int → Int, (∀ f, (f < 13 ∨ 18 < f) → f ≠ 22 → g' f = M 33 0 f) → PG g' len (clL b len 5 0 σ (M 39 0)).1 → g' 22 = (clL b len 5 0 σ (M 39 0)).2.1 → ((clL b len 5 0 σ (M 39 0)).1.1 = 0 → ∀ q, 0 ≤ q → q < 62 → D' q = (clL b len 5 0 σ (M 39 0)).2.2 q) → post (.inr none) (ME M g' D')) : bc_Call G yX9_readClients cX9_readClients 2 none 6 0 [vR G 33 0] M post := by
  refine bc_enter (L := [some (vR G 33 0), none]) (by decide) rfl rfl ?_
  rw [show M = ME M (M 33 0) (M 39 0) from ME_self.symm]
  refine wp_aload_n eX9_readClients_0 rfl ?_
  refine wp_iconst eX9_readClients_1 ?_
  refine pf_X9_172 eX9_readClients_2 ?_
  rw [ME_f]
  refine lp_readClients hb 5 0 σ (bc_u (M 33 0) 22 0) (M 39 0) (M 39 0) none (by omega) (by omega) (fun f a b9 => by rw [u_ne b9]) ⟨by rw [u_ne (by decide)]; exact hP.1, by rw [u_ne (by decide)]; exact hP.2.1, by rw [u_ne (by decide)]; exact hP.2.2.1, by rw [u_ne (by decide)]; exact hP.2.2.2.1, by rw [u_ne (by decide)]; exact hP.2.2.2.2.1, fun z => by rw [u_ne (by decide)]; exact hP.2.2.2.2.2.1 z, by rw [u_ne (by decide)]; exact hP.2.2.2.2.2.2⟩ hσ (by rw [u_at]) (fun _ q _ _ => rfl) k
