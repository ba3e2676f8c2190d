/-- a field of a client in the model's row -/
def mc (M : bc_M) (c f : Int) : Int := M 34 0 (54 + 38 * c + f)
def mo_less (M : bc_M) (c x y : Int) : Bool := if M 37 0 c = 0 then decide (mc M c (22 + x) - mc M c (22 + y) < 0) else if M 37 0 c = 1 then decide (mc M c (6 + x) - mc M c (6 + y) < 0 ∨ (mc M c (6 + x) - mc M c (6 + y) = 0 ∧ mc M c (22 + x) - mc M c (22 + y) < 0)) else decide (M 34 0 (0 + x) * M 34 0 (48 + M 34 0 (16 + y)) < M 34 0 (0 + y) * M 34 0 (48 + M 34 0 (16 + x)))
def mo_ch (M : bc_M) (c : Int) : Nat → Int → Int → Int
  | 0, _, b => b
  | n + 1, i, b => mo_ch M c n (i + 1) (if bs (mc M c 5) i = true ∧ (b = -1 ∨ mo_less M c i b = true) then i else b)
theorem ct_goesRather {G : bc_G} {M : bc_M} {post : bc_R → bc_M → Prop} {c x y : Int} (hc : 0 ≤ c ∧ c < 4) (hx : 0 ≤ x ∧ x < 16) (hy : 0 ≤ y ∧ y < 16) (hpol : 0 ≤ M 37 0 c ∧ M 37 0 c ≤ 2) (hcl : ∀ f, 0 ≤ f → f < 38 → 0 ≤ mc M c f ∧ mc M c f ≤ 100000000) (hpx : 0 ≤ M 34 0 (0 + x) ∧ M 34 0 (0 + x) ≤ 99) (hpy : 0 ≤ M 34 0 (0 + y) ∧ M 34 0 (0 + y) ≤ 99) (hdx : 0 ≤ M 34 0 (16 + x) ∧ M 34 0 (16 + x) < 4) (hdy : 0 ≤ M 34 0 (16 + y) ∧ M 34 0 (16 + y) < 4) (hfx : 0 ≤ M 34 0 (48 + M 34 0 (16 + x)) ∧ M 34 0 (48 + M 34 0 (16 + x)) ≤ 6) (hfy : 0 ≤ M 34 0 (48 + M 34 0 (16 + y)) ∧ M 34 0 (48 + M 34 0 (16 + y)) ≤ 6) (k : post (.inr (some (vI (if mo_less M c x y then 1 else 0)))) M) : bc_Call G yX9_goesRather cX9_goesRather 8 (some .boolean) 2 0 [vR G 33 0, vI c, vI x, vI y] M post := by
  have q1 := hcl (6 + x) (by omega) (by omega)
  have q2 := hcl (6 + y) (by omega) (by omega)
  have q3 := hcl (22 + x) (by omega) (by omega)
  have q4 := hcl (22 + y) (by omega) (by omega)
  refine bc_enter (L := [some (vR G 33 0), some (vI c), some (vI x), some (vI y), none, none, none, none]) (by decide) rfl rfl ?_
  refine wp_aload_n eX9_goesRather_0 rfl ?_
  refine wp_iload_n eX9_goesRather_1 rfl ?_
  refine wp_bipush eX9_goesRather_2 ?_
  refine wp_iload_n eX9_goesRather_4 rfl ?_
  refine wp_iadd eX9_goesRather_5 ?_
  refine c_X9_257 eX9_goesRather_6 (ct_ofClient hc (by omega) ?_)
  rw [show M 34 0 (54 + 38 * c + (6 + x)) = mc M c (6 + x) from rfl]
  refine wp_aload_n eX9_goesRather_9 rfl ?_
  refine wp_iload_n eX9_goesRather_10 rfl ?_
  refine wp_bipush eX9_goesRather_11 ?_
  refine wp_iload_n eX9_goesRather_13 rfl ?_
  refine wp_iadd eX9_goesRather_14 ?_
  refine c_X9_257 eX9_goesRather_15 (ct_ofClient hc (by omega) ?_)
  rw [show M 34 0 (54 + 38 * c + (6 + y)) = mc M c (6 + y) from rfl]
  refine wp_isub eX9_goesRather_18 ?_
  refine ist_4 eX9_goesRather_19 ?_
  refine wp_aload_n eX9_goesRather_21 rfl ?_
  refine wp_iload_n eX9_goesRather_22 rfl ?_
  refine wp_bipush eX9_goesRather_23 ?_
  refine wp_iload_n eX9_goesRather_25 rfl ?_
  refine wp_iadd eX9_goesRather_26 ?_
  refine c_X9_257 eX9_goesRather_27 (ct_ofClient hc (by omega) ?_)
  rw [show M 34 0 (54 + 38 * c + (22 + x)) = mc M c (22 + x) from rfl]
  refine wp_aload_n eX9_goesRather_30 rfl ?_
  refine wp_iload_n eX9_goesRather_31 rfl ?_
  refine wp_bipush eX9_goesRather_32 ?_
  refine wp_iload_n eX9_goesRather_34 rfl ?_
  refine wp_iadd eX9_goesRather_35 ?_
  refine c_X9_257 eX9_goesRather_36 (ct_ofClient hc (by omega) ?_)
  rw [show M 34 0 (54 + 38 * c + (22 + y)) = mc M c (22 + y) from rfl]
  refine wp_isub eX9_goesRather_39 ?_
  refine ist_5 eX9_goesRather_40 ?_
  refine wp_aload_n eX9_goesRather_42 rfl ?_
  refine gf_X9_19 eX9_goesRather_43 ?_
  refine wp_iload_n eX9_goesRather_46 rfl ?_
  refine al_37 eX9_goesRather_47 ?_
  refine wp_if_ne eX9_goesRather_48 (fun c48 => ?_) (fun c48 => ?_)
  · refine wp_aload_n eX9_goesRather_62 rfl ?_
    refine gf_X9_19 eX9_goesRather_63 ?_
    refine wp_iload_n eX9_goesRather_66 rfl ?_
    refine al_37 eX9_goesRather_67 ?_
    refine wp_iconst eX9_goesRather_68 ?_
    refine wp_icmp_ne eX9_goesRather_69 (fun c69 => ?_) (fun c69 => ?_)
    · refine wp_aload_n eX9_goesRather_93 rfl ?_
      refine gf_X9_7 eX9_goesRather_94 ?_
      refine wp_iconst eX9_goesRather_97 ?_
      refine wp_iload_n eX9_goesRather_98 rfl ?_
      refine wp_iadd eX9_goesRather_99 ?_
      refine al_34 eX9_goesRather_100 ?_
      refine wp_aload_n eX9_goesRather_101 rfl ?_
      refine gf_X9_7 eX9_goesRather_102 ?_
      refine wp_bipush eX9_goesRather_105 ?_
      refine wp_aload_n eX9_goesRather_107 rfl ?_
      refine gf_X9_7 eX9_goesRather_108 ?_
      refine wp_bipush eX9_goesRather_111 ?_
      refine wp_iload_n eX9_goesRather_113 rfl ?_
      refine wp_iadd eX9_goesRather_114 ?_
      refine al_34 eX9_goesRather_115 ?_
      refine wp_iadd eX9_goesRather_116 ?_
      refine al_34 eX9_goesRather_117 ?_
      refine wp_imul eX9_goesRather_118 ?_
      refine ist_6 eX9_goesRather_119 ?_
      refine wp_aload_n eX9_goesRather_121 rfl ?_
      refine gf_X9_7 eX9_goesRather_122 ?_
      refine wp_iconst eX9_goesRather_125 ?_
      refine wp_iload_n eX9_goesRather_126 rfl ?_
      refine wp_iadd eX9_goesRather_127 ?_
      refine al_34 eX9_goesRather_128 ?_
      refine wp_aload_n eX9_goesRather_129 rfl ?_
      refine gf_X9_7 eX9_goesRather_130 ?_
      refine wp_bipush eX9_goesRather_133 ?_
      refine wp_aload_n eX9_goesRather_135 rfl ?_
      refine gf_X9_7 eX9_goesRather_136 ?_
      refine wp_bipush eX9_goesRather_139 ?_
      refine wp_iload_n eX9_goesRather_141 rfl ?_
      refine wp_iadd eX9_goesRather_142 ?_
      refine al_34 eX9_goesRather_143 ?_
      refine wp_iadd eX9_goesRather_144 ?_
      refine al_34 eX9_goesRather_145 ?_
      refine wp_imul eX9_goesRather_146 ?_
      refine ist_7 eX9_goesRather_147 ?_
      have b1 := bm_nn (a := M 34 0 (0 + x)) (b := M 34 0 (48 + M 34 0 (16 + y))) (A := 99) (B := 6) hpx hfy
      have b2 := bm_nn (a := M 34 0 (0 + y)) (b := M 34 0 (48 + M 34 0 (16 + x))) (A := 99) (B := 6) hpy hfx
      refine wp_iload eX9_goesRather_149 rfl ?_
      refine wp_iload eX9_goesRather_151 rfl ?_
      refine wp_icmp_ge eX9_goesRather_153 (fun c153 => ?_) (fun c153 => ?_)
      · have hk : mo_less M c x y = false := by
          unfold mo_less
          rw [if_neg (by omega), if_neg (by omega)]; exact decide_eq_false (by omega)
        rw [hk] at k
        refine wp_iconst eX9_goesRather_160 ?_
        refine wp_zreturn eX9_goesRather_161 (by decide) ?_
        exact k
      · have hk : mo_less M c x y = true := by
          unfold mo_less
          rw [if_neg (by omega), if_neg (by omega)]; exact decide_eq_true (by omega)
        rw [hk] at k
        refine wp_iconst eX9_goesRather_156 ?_
        refine wp_goto eX9_goesRather_157 ?_
        refine wp_zreturn eX9_goesRather_161 (by decide) ?_
        exact k
    · refine wp_iload eX9_goesRather_72 rfl ?_
      refine wp_if_lt eX9_goesRather_74 (fun c74 => ?_) (fun c74 => ?_)
      · have hk : mo_less M c x y = true := by
          unfold mo_less
          rw [if_neg (by omega), if_pos (by omega)]; exact decide_eq_true (by omega)
        rw [hk] at k
        refine wp_iconst eX9_goesRather_87 ?_
        refine wp_goto eX9_goesRather_88 ?_
        refine wp_zreturn eX9_goesRather_92 (by decide) ?_
        exact k
      · refine wp_iload eX9_goesRather_77 rfl ?_
        refine wp_if_ne eX9_goesRather_79 (fun c79 => ?_) (fun c79 => ?_)
        · have hk : mo_less M c x y = false := by
            unfold mo_less
            rw [if_neg (by omega), if_pos (by omega)]; exact decide_eq_false (by omega)
          rw [hk] at k
          refine wp_iconst eX9_goesRather_91 ?_
          refine wp_zreturn eX9_goesRather_92 (by decide) ?_
          exact k
        · refine wp_iload eX9_goesRather_82 rfl ?_
          refine wp_if_ge eX9_goesRather_84 (fun c84 => ?_) (fun c84 => ?_)
          · have hk : mo_less M c x y = false := by
              unfold mo_less
              rw [if_neg (by omega), if_pos (by omega)]; exact decide_eq_false (by omega)
            rw [hk] at k
            refine wp_iconst eX9_goesRather_91 ?_
            refine wp_zreturn eX9_goesRather_92 (by decide) ?_
            exact k
          · have hk : mo_less M c x y = true := by
              unfold mo_less
              rw [if_neg (by omega), if_pos (by omega)]; exact decide_eq_true (by omega)
            rw [hk] at k
            refine wp_iconst eX9_goesRather_87 ?_
            refine wp_goto eX9_goesRather_88 ?_
            refine wp_zreturn eX9_goesRather_92 (by decide) ?_
            exact k
  · refine wp_iload eX9_goesRather_51 rfl ?_
    refine wp_if_ge eX9_goesRather_53 (fun c53 => ?_) (fun c53 => ?_)
    · have hk : mo_less M c x y = false := by
        unfold mo_less
        rw [if_pos (by omega)]; exact decide_eq_false (by omega)
      rw [hk] at k
      refine wp_iconst eX9_goesRather_60 ?_
      refine wp_zreturn eX9_goesRather_61 (by decide) ?_
      exact k
    · have hk : mo_less M c x y = true := by
        unfold mo_less
        rw [if_pos (by omega)]; exact decide_eq_true (by omega)
      rw [hk] at k
      refine wp_iconst eX9_goesRather_56 ?_
      refine wp_goto eX9_goesRather_57 ?_
      refine wp_zreturn eX9_goesRather_61 (by decide) ?_
      exact k
