theorem PG.mk0 {g : Int → Int} {len s en k v : Int} (h12 : g 12 = len) (h17 : g 17 = 0) (h18 : g 18 = -1) (h14 : g 14 = s) (h13 : g 13 = en) (h15 : g 15 = mkd k) (h16 : k = 2 → g 16 = v) : PG g len (0, (s, en, k, v)) := ⟨h12, h17, h14, h13, h15, h16, h18⟩
set_option maxHeartbeats 1000000 in
theorem ct_next {G : bc_G} {M : bc_M} {post : bc_R → bc_M → Prop} {b : Int → Int} {len : Int} (hb : BT M b len) {σ : bl_s} (hP : PG (M 33 0) len σ) (hσ : SG len σ) (k : ∀ g' : Int → Int, NF (M 33 0) g' → PG g' len (p_a b len σ) → post (.inr none) (bc_row M 33 0 g')) : bc_Call G yX9_next cX9_next 1 none 3 0 [vR G 33 0] M post := by
  have hl := hb.2
  refine bc_enter (L := [some (vR G 33 0)]) (by decide) rfl rfl ?_
  refine wp_aload_n eX9_next_0 rfl ?_
  refine c_X9_110 eX9_next_1 (ct_isFine (by rw [hP.2.1]; exact hσ.1) ?_)
  refine wp_if_ne eX9_next_4 (fun c4 => ?_) (fun c4 => ?_) (by split <;> omega)
  · have he : σ.1 = 0 := by
      apply Decidable.byContradiction
      intro h9
      rw [hP.2.1, if_neg h9] at c4
      exact absurd rfl c4
    have hpa : p_a b len σ = (0, lx_at b len (lxS b len σ.2.2.1)) := by
      unfold p_a
      rw [if_pos he]
      rfl
    rw [hpa] at k
    rw [show M = bc_row M 33 0 (M 33 0) from row_self.symm]
    refine lp_nxB hb (len - σ.2.2.1).toNat σ.2.2.1 (M 33 0) (by have := hσ.2.1; omega) (by have := hσ.2.1; omega) hP.2.2.2.1 hP.1 ?_
    rw [show lx_run lx_bl b len (len - σ.2.2.1).toNat σ.2.2.1 = (lxS b len σ.2.2.1) from rfl]
    have hsr := lxS_r (b := b) hσ.2.1.2.2
    have q12 := hP.1
    have q17 : M 33 0 17 = 0 := by rw [hP.2.1]; exact he
    have q18 : M 33 0 18 = -1 := by rw [hP.2.2.2.2.2.2, if_pos he]
    have hs0 : 0 ≤ (lxS b len σ.2.2.1) := by have := hσ.2.1; omega
    refine wp_aload_n eX9_next_47 rfl ?_
    refine wp_aload_n eX9_next_48 rfl ?_
    refine gf_X9_114 eX9_next_49 ?_
    rw [row_at, u_at]
    refine pf_X9_117 eX9_next_52 ?_
    rw [up_row]
    refine wp_aload_n eX9_next_55 rfl ?_
    refine gf_X9_114 eX9_next_56 ?_
    rw [row_at, u_ne (by decide), u_at]
    refine wp_aload_n eX9_next_59 rfl ?_
    refine gf_X9_92 eX9_next_60 ?_
    rw [row_at, u_ne (by decide), u_ne (by decide), q12]
    refine wp_icmp_ne eX9_next_63 (fun c63 => ?_) (fun c63 => ?_)
    · refine wp_aload_n eX9_next_74 rfl ?_
      refine wp_aload_n eX9_next_75 rfl ?_
      refine gf_X9_114 eX9_next_76 ?_
      rw [row_at, u_ne (by decide), u_at]
      refine c_X9_123 eX9_next_79 (ct_isLetterAt (hb.row (by decide)) (by rw [row_at, u_ne (by decide), u_ne (by decide)]; exact q12) (x := (lxS b len σ.2.2.1)) (by omega) ?_)
      refine wp_if_eq eX9_next_82 (fun c82 => ?_) (fun c82 => ?_) (by split <;> omega)
      · have hle : ¬ lx_le (b (lxS b len σ.2.2.1)) = true := by
          intro h9
          rw [if_pos ⟨by omega, h9⟩] at c82
          exact absurd c82 (by decide)
        refine wp_aload_n eX9_next_117 rfl ?_
        refine wp_aload_n eX9_next_118 rfl ?_
        refine gf_X9_114 eX9_next_119 ?_
        rw [row_at, u_ne (by decide), u_at]
        refine c_X9_127 eX9_next_122 (ct_isDigitAt (hb.row (by decide)) (by rw [row_at, u_ne (by decide), u_ne (by decide)]; exact q12) (x := (lxS b len σ.2.2.1)) (by omega) ?_)
        refine wp_if_eq eX9_next_125 (fun c125 => ?_) (fun c125 => ?_) (by split <;> omega)
        · have hdi : ¬ lx_di (b (lxS b len σ.2.2.1)) = true := by
            intro h9
            rw [if_pos ⟨by omega, h9⟩] at c125
            exact absurd c125 (by decide)
          refine wp_aload_n eX9_next_218 rfl ?_
          refine wp_aload_n eX9_next_219 rfl ?_
          refine wp_aload_n eX9_next_220 rfl ?_
          refine gf_X9_114 eX9_next_221 ?_
          rw [row_at, u_ne (by decide), u_at]
          refine c_X9_95 eX9_next_224 (ct_byteAt (hb.row (by decide)) (by rw [row_at, u_ne (by decide), u_ne (by decide)]; exact q12) (x := (lxS b len σ.2.2.1)) (by omega) ?_)
          rw [if_pos (by omega)]
          have hbs := (hb.1 (lxS b len σ.2.2.1) (by omega) (by omega)).2
          refine wp_bipush eX9_next_227 ?_
          refine wp_icmp_ne eX9_next_229 (fun c229 => ?_) (fun c229 => ?_)
          · refine wp_iconst eX9_next_236 ?_
            refine pf_X9_120 eX9_next_237 ?_
            refine wp_aload_n eX9_next_240 rfl ?_
            refine wp_dup eX9_next_241 ?_
            refine gf_X9_114 eX9_next_242 ?_
            rw [up_row, row_at, u_ne (by decide), u_ne (by decide), u_at]
            refine wp_iconst eX9_next_245 ?_
            refine wp_iadd eX9_next_246 ?_
            refine pf_X9_114 eX9_next_247 ?_
            refine wp_return eX9_next_250 ?_
            have hat : lx_at b len (lxS b len σ.2.2.1) = ((lxS b len σ.2.2.1), (lxS b len σ.2.2.1) + 1, 4, 0) := by
              unfold lx_at
              rw [if_neg (by omega), if_neg hle, if_neg hdi, if_neg (by omega)]
            rw [up_row]
            refine k _ ((((NF.rf.u (by omega)).u (by omega)).u (by omega)).u (by omega)) ?_
            rw [hat]
            exact PG.mk0 (by simp [bc_u, q12]) (by simp [bc_u, q17]) (by simp [bc_u, q18]) (by simp [bc_u]) (by simp [bc_u]) (by simp [bc_u, mkd]) (fun z => absurd z (by decide))
          · refine wp_iconst eX9_next_232 ?_
            refine wp_goto eX9_next_233 ?_
            refine pf_X9_120 eX9_next_237 ?_
            refine wp_aload_n eX9_next_240 rfl ?_
            refine wp_dup eX9_next_241 ?_
            refine gf_X9_114 eX9_next_242 ?_
            rw [up_row, row_at, u_ne (by decide), u_ne (by decide), u_at]
            refine wp_iconst eX9_next_245 ?_
            refine wp_iadd eX9_next_246 ?_
            refine pf_X9_114 eX9_next_247 ?_
            refine wp_return eX9_next_250 ?_
            have hat : lx_at b len (lxS b len σ.2.2.1) = ((lxS b len σ.2.2.1), (lxS b len σ.2.2.1) + 1, 3, 0) := by
              unfold lx_at
              rw [if_neg (by omega), if_neg hle, if_neg hdi, if_pos (by omega)]
            rw [up_row]
            refine k _ ((((NF.rf.u (by omega)).u (by omega)).u (by omega)).u (by omega)) ?_
            rw [hat]
            exact PG.mk0 (by simp [bc_u, q12]) (by simp [bc_u, q17]) (by simp [bc_u, q18]) (by simp [bc_u]) (by simp [bc_u]) (by simp [bc_u, mkd]) (fun z => absurd z (by decide))
        · have hdi : lx_di (b (lxS b len σ.2.2.1)) = true := by
            apply Decidable.byContradiction
            intro h9
            rw [if_neg (fun z => h9 z.2)] at c125
            exact absurd rfl c125
          refine wp_aload_n eX9_next_128 rfl ?_
          refine wp_iconst eX9_next_129 ?_
          refine pf_X9_130 eX9_next_130 ?_
          rw [up_row]
          refine lp_nxD hb hs0 (len - (lxS b len σ.2.2.1)).toNat (lxS b len σ.2.2.1) (bc_u (bc_u (bc_u (M 33 0) 13 (lxS b len σ.2.2.1)) 14 (lxS b len σ.2.2.1)) 16 0) 0 (by omega) (by omega) (by rw [u_ne (by decide), u_ne (by decide), u_at]) (by rw [u_ne (by decide), u_ne (by decide), u_ne (by decide)]; exact q12) (by rw [u_ne (by decide), u_at]) (by rw [u_at]) hs0 ?_
          rw [show bc_u (bc_u (bc_u (bc_u (bc_u (M 33 0) 13 (lxS b len σ.2.2.1)) 14 (lxS b len σ.2.2.1)) 16 0) 13 (lx_run lx_di b len (len - (lxS b len σ.2.2.1)).toNat (lxS b len σ.2.2.1))) 16 (lx_num b len (lxS b len σ.2.2.1) (len - (lxS b len σ.2.2.1)).toNat (lxS b len σ.2.2.1) 0) = bc_u (bc_u (bc_u (bc_u (bc_u (M 33 0) 13 (lxS b len σ.2.2.1)) 14 (lxS b len σ.2.2.1)) 16 0) 13 (lxR lx_di b len (lxS b len σ.2.2.1))) 16 (lx_num b len (lxS b len σ.2.2.1) (len - (lxS b len σ.2.2.1)).toNat (lxS b len σ.2.2.1) 0) from rfl]
          refine wp_aload_n eX9_next_193 rfl ?_
          refine wp_aload_n eX9_next_194 rfl ?_
          refine gf_X9_114 eX9_next_195 ?_
          rw [row_at, u_ne (by decide), u_at]
          have hrr := lxR_r (P := lx_di) (b := b) (len := len) (p := (lxS b len σ.2.2.1)) hsr.2
          refine wp_aload_n eX9_next_198 rfl ?_
          refine gf_X9_117 eX9_next_199 ?_
          rw [row_at, u_ne (by decide), u_ne (by decide), u_ne (by decide), u_at]
          refine wp_isub eX9_next_202 ?_
          refine wp_iconst eX9_next_203 ?_
          refine wp_icmp_le eX9_next_204 (fun c204 => ?_) (fun c204 => ?_)
          · refine wp_iconst eX9_next_211 ?_
            refine pf_X9_120 eX9_next_212 ?_
            refine wp_goto eX9_next_215 ?_
            refine wp_return eX9_next_250 ?_
            have hat : lx_at b len (lxS b len σ.2.2.1) = ((lxS b len σ.2.2.1), lxR lx_di b len (lxS b len σ.2.2.1), 2, lx_num b len (lxS b len σ.2.2.1) (len - (lxS b len σ.2.2.1)).toNat (lxS b len σ.2.2.1) 0) := by
              unfold lx_at
              rw [if_neg (by omega), if_neg hle, if_pos hdi, if_pos (by omega)]
            rw [up_row]
            refine k _ ((((((NF.rf.u (by omega)).u (by omega)).u (by omega)).u (by omega)).u (by omega)).u (by omega)) ?_
            rw [hat]
            exact PG.mk0 (by simp [bc_u, q12]) (by simp [bc_u, q17]) (by simp [bc_u, q18]) (by simp [bc_u]) (by simp [bc_u]) (by simp [bc_u, mkd]) (fun _ => by simp [bc_u])
          · refine wp_iconst eX9_next_207 ?_
            refine wp_goto eX9_next_208 ?_
            refine pf_X9_120 eX9_next_212 ?_
            refine wp_goto eX9_next_215 ?_
            refine wp_return eX9_next_250 ?_
            have hat : lx_at b len (lxS b len σ.2.2.1) = ((lxS b len σ.2.2.1), lxR lx_di b len (lxS b len σ.2.2.1), 4, lx_num b len (lxS b len σ.2.2.1) (len - (lxS b len σ.2.2.1)).toNat (lxS b len σ.2.2.1) 0) := by
              unfold lx_at
              rw [if_neg (by omega), if_neg hle, if_pos hdi, if_neg (by omega)]
            rw [up_row]
            refine k _ ((((((NF.rf.u (by omega)).u (by omega)).u (by omega)).u (by omega)).u (by omega)).u (by omega)) ?_
            rw [hat]
            exact PG.mk0 (by simp [bc_u, q12]) (by simp [bc_u, q17]) (by simp [bc_u, q18]) (by simp [bc_u]) (by simp [bc_u]) (by simp [bc_u, mkd]) (fun z => absurd z (by decide))
      · have hle : lx_le (b (lxS b len σ.2.2.1)) = true := by
          apply Decidable.byContradiction
          intro h9
          rw [if_neg (fun z => h9 z.2)] at c82
          exact absurd rfl c82
        refine lp_nxL hb (len - (lxS b len σ.2.2.1)).toNat (lxS b len σ.2.2.1) (bc_u (bc_u (M 33 0) 13 (lxS b len σ.2.2.1)) 14 (lxS b len σ.2.2.1)) (by omega) (by omega) (by rw [u_ne (by decide), u_at]) (by rw [u_ne (by decide), u_ne (by decide)]; exact q12) ?_
        rw [show lx_run lx_le b len (len - (lxS b len σ.2.2.1)).toNat (lxS b len σ.2.2.1) = lxR lx_le b len (lxS b len σ.2.2.1) from rfl]
        refine wp_aload_n eX9_next_109 rfl ?_
        refine wp_iconst eX9_next_110 ?_
        refine pf_X9_120 eX9_next_111 ?_
        refine wp_goto eX9_next_114 ?_
        refine wp_return eX9_next_250 ?_
        have hat : lx_at b len (lxS b len σ.2.2.1) = ((lxS b len σ.2.2.1), lxR lx_le b len (lxS b len σ.2.2.1), 1, 0) := by unfold lx_at; rw [if_neg (by omega), if_pos hle]
        rw [up_row]
        refine k _ ((((NF.rf.u (by omega)).u (by omega)).u (by omega)).u (by omega)) ?_
        rw [hat]
        exact PG.mk0 (by simp [bc_u, q12]) (by simp [bc_u, q17]) (by simp [bc_u, q18]) (by simp [bc_u]) (by simp [bc_u]) (by simp [bc_u, mkd]) (fun z => absurd z (by decide))
    · refine wp_aload_n eX9_next_66 rfl ?_
      refine wp_iconst eX9_next_67 ?_
      refine pf_X9_120 eX9_next_68 ?_
      refine wp_goto eX9_next_71 ?_
      refine wp_return eX9_next_250 ?_
      have hat : lx_at b len (lxS b len σ.2.2.1) = ((lxS b len σ.2.2.1), (lxS b len σ.2.2.1), 0, 0) := by unfold lx_at; rw [if_pos (by omega)]
      rw [up_row]
      refine k _ (((NF.rf.u (by omega)).u (by omega)).u (by omega)) ?_
      rw [hat]
      exact PG.mk0 (by simp [bc_u, q12]) (by simp [bc_u, q17]) (by simp [bc_u, q18]) (by simp [bc_u]) (by simp [bc_u]) (by simp [bc_u, mkd]) (fun z => absurd z (by decide))
  · have he : σ.1 ≠ 0 := by
      intro h9
      rw [hP.2.1, if_pos h9] at c4
      exact c4 (by decide)
    refine wp_return eX9_next_7 ?_
    rw [p_a_e he] at k
    have k9 := k (M 33 0) NF.rf hP
    rw [row_self] at k9
    exact k9
theorem ct_fail {G : bc_G} {M : bc_M} {post : bc_R → bc_M → Prop} {c : Int} (hc : 1 ≤ c ∧ c ≤ 3) {len : Int} {σ : bl_s} (hP : PG (M 33 0) len σ) (hσ : SG len σ) (k : ∀ g' : Int → Int, NF (M 33 0) g' → PG g' len (p_f c σ) → post (.inr none) (bc_row M 33 0 g')) : bc_Call G yX9_fail cX9_fail 2 none 2 0 [vR G 33 0, vI c] M post := by
  refine bc_enter (L := [some (vR G 33 0), some (vI c)]) (by decide) rfl rfl ?_
  refine wp_aload_n eX9_fail_0 rfl ?_
  refine c_X9_110 eX9_fail_1 (ct_isFine (by rw [hP.2.1]; exact hσ.1) ?_)
  refine wp_if_eq eX9_fail_4 (fun c4 => ?_) (fun c4 => ?_) (by split <;> omega)
  · have he : σ.1 ≠ 0 := by
      intro h9
      rw [hP.2.1, if_pos h9] at c4
      exact absurd c4 (by decide)
    rw [p_f_e he] at k
    have k9 := k (M 33 0) NF.rf hP
    rw [row_self] at k9
    refine wp_return eX9_fail_20 ?_
    first
    | exact k9
    | (rw [up_row]; refine k _ ((NF.rf.u (by omega)).u (by omega)) ⟨by rw [u_ne (by decide), u_ne (by decide)]; exact hP.1, by rw [u_ne (by decide), u_at], by rw [u_ne (by decide), u_ne (by decide)]; exact hP.2.2.1, by rw [u_ne (by decide), u_ne (by decide)]; exact hP.2.2.2.1, by rw [u_ne (by decide), u_ne (by decide)]; exact hP.2.2.2.2.1, fun z => by rw [u_ne (by decide), u_ne (by decide)]; exact hP.2.2.2.2.2.1 z, ?_⟩; rw [u_at, if_neg (show ¬ c = 0 by omega)])
  · have he : σ.1 = 0 := by
      apply Decidable.byContradiction
      intro h9
      rw [hP.2.1, if_neg h9] at c4
      exact absurd rfl c4
    rw [show p_f c σ = (c, σ.2) from if_pos he] at k
    rw [show M = bc_row M 33 0 (M 33 0) from row_self.symm]
    refine wp_aload_n eX9_fail_7 rfl ?_
    refine wp_iload_n eX9_fail_8 rfl ?_
    refine pf_X9_107 eX9_fail_9 ?_
    refine wp_aload_n eX9_fail_12 rfl ?_
    refine wp_aload_n eX9_fail_13 rfl ?_
    refine gf_X9_117 eX9_fail_14 ?_
    rw [up_row, row_at, u_ne (by decide), hP.2.2.1]
    refine pf_X9_25 eX9_fail_17 ?_
    refine wp_return eX9_fail_20 ?_
    first
    | exact k9
    | (rw [up_row]; refine k _ ((NF.rf.u (by omega)).u (by omega)) ⟨by rw [u_ne (by decide), u_ne (by decide)]; exact hP.1, by rw [u_ne (by decide), u_at], by rw [u_ne (by decide), u_ne (by decide)]; exact hP.2.2.1, by rw [u_ne (by decide), u_ne (by decide)]; exact hP.2.2.2.1, by rw [u_ne (by decide), u_ne (by decide)]; exact hP.2.2.2.2.1, fun z => by rw [u_ne (by decide), u_ne (by decide)]; exact hP.2.2.2.2.2.1 z, ?_⟩; rw [u_at, if_neg (show ¬ c = 0 by omega)])
theorem lp_isWord {G : bc_G} {M : bc_M} {post : bc_R → bc_M → Prop} {b : Int → Int} {len : Int} (hb : BT M b len) {σ : bl_s} (hP : PG (M 33 0) len σ) (hσ : SG len σ) {ti : Nat} (ht : ti < 12) (hw : σ.2.2.1 - σ.2.1 = st_len ti) : ∀ (n : Nat) (j : Int) (h1 : j + n = st_len ti) (h2 : 0 ≤ j) (k : post (.inr (some (vI (if p_eq b σ.2.1 ti n j = true then 1 else 0)))) M), bc_W G RX9 cX9_isWord 3 (some .boolean) 5 0 0 35 [some (vR G 33 0), some (vR G 100 ti), some (vI j)] [] M post := by
  intro n
  induction n with
  | zero =>
    intro j h1 h2 k
    have hln := st_len_r ⟨ti, ht⟩
    simp only at hln
    have hl := hb.2
    have hs1 := hσ.2.1
    refine wp_iload_n eX9_isWord_35 rfl ?_
    refine wp_aload_n eX9_isWord_36 rfl ?_
    refine ts_X9_133 eX9_isWord_37 (ct_sLen ht ?_) ht
    refine wp_icmp_ge eX9_isWord_40 (fun c40 => ?_) (fun c40 => ?_)
    · rw [show p_eq b σ.2.1 ti 0 j = true from rfl] at k
      refine wp_iconst eX9_isWord_70 ?_
      refine wp_zreturn eX9_isWord_71 (by decide) ?_
      exact k
    · omega
  | succ n ih =>
    intro j h1 h2 k
    have hln := st_len_r ⟨ti, ht⟩
    simp only at hln
    have hl := hb.2
    have hs1 := hσ.2.1
    refine wp_iload_n eX9_isWord_35 rfl ?_
    refine wp_aload_n eX9_isWord_36 rfl ?_
    refine ts_X9_133 eX9_isWord_37 (ct_sLen ht ?_) ht
    refine wp_icmp_ge eX9_isWord_40 (fun c40 => ?_) (fun c40 => ?_)
    · omega
    · refine wp_aload_n eX9_isWord_43 rfl ?_
      refine gf_X9_22 eX9_isWord_44 ?_
      refine wp_aload_n eX9_isWord_47 rfl ?_
      refine gf_X9_117 eX9_isWord_48 ?_
      rw [hP.2.2.1]
      refine wp_iload_n eX9_isWord_51 rfl ?_
      refine wp_iadd eX9_isWord_52 ?_
      refine al_38 eX9_isWord_53 ?_
      rw [(hb.1 (σ.2.1 + j) (by omega) (by omega)).1]
      have hbq := (hb.1 (σ.2.1 + j) (by omega) (by omega)).2
      refine wp_aload_n eX9_isWord_54 rfl ?_
      refine wp_iload_n eX9_isWord_55 rfl ?_
      refine ts_X9_139 eX9_isWord_56 (ct_sChar ht (by omega) ?_) ht
      have hch := st_ch_r ht (j := j) (by omega)
      refine wp_icmp_eq eX9_isWord_59 (fun c59 => ?_) (fun c59 => ?_)
      · have hk9 : p_eq b σ.2.1 ti (n + 1) j = p_eq b σ.2.1 ti n (j + 1) := by
          simp only [p_eq]
          rw [if_pos (by omega)]
        rw [hk9] at k
        refine inc_2 eX9_isWord_64 ?_
        refine wp_goto eX9_isWord_67 ?_
        exact ih (j + 1) (by omega) (by omega) k
      · have hk9 : p_eq b σ.2.1 ti (n + 1) j = false := by
          simp only [p_eq]
          rw [if_neg (by omega)]
        rw [hk9] at k
        refine wp_iconst eX9_isWord_62 ?_
        refine wp_zreturn eX9_isWord_63 (by decide) ?_
        exact k
theorem ct_isWord {G : bc_G} {M : bc_M} {post : bc_R → bc_M → Prop} {b : Int → Int} {len : Int} (hb : BT M b len) {σ : bl_s} (hP : PG (M 33 0) len σ) (hσ : SG len σ) {ti : Nat} (ht : ti < 12) (k : post (.inr (some (vI (if p_w b ti σ = true then 1 else 0)))) M) : bc_Call G yX9_isWord cX9_isWord 3 (some .boolean) 5 0 [vR G 33 0, vR G 100 ti] M post := by
  have hln := st_len_r ⟨ti, ht⟩
  simp only at hln
  have hl := hb.2
  have hs1 := hσ.2.1
  have hk := mkd_r hσ.2.2.1
  refine bc_enter (L := [some (vR G 33 0), some (vR G 100 ti), none]) (by decide) rfl rfl ?_
  refine wp_aload_n eX9_isWord_0 rfl ?_
  refine c_X9_110 eX9_isWord_1 (ct_isFine (by rw [hP.2.1]; exact hσ.1) ?_)
  refine wp_if_eq eX9_isWord_4 (fun c4 => ?_) (fun c4 => ?_) (by split <;> omega)
  · have he : σ.1 ≠ 0 := by
      intro h9
      rw [hP.2.1, if_pos h9] at c4
      exact absurd c4 (by decide)
    have hk9 : p_w b ti σ = false := by
      unfold p_w
      rw [decide_eq_false (fun q => he q.1), Bool.false_and]
    rw [hk9] at k
    refine wp_iconst eX9_isWord_31 ?_
    refine wp_zreturn eX9_isWord_32 (by decide) ?_
    exact k
  · have he : σ.1 = 0 := by
      apply Decidable.byContradiction
      intro h9
      rw [hP.2.1, if_neg h9] at c4
      exact absurd rfl c4
    refine wp_aload_n eX9_isWord_7 rfl ?_
    refine gf_X9_120 eX9_isWord_8 ?_
    rw [hP.2.2.2.2.1]
    refine wp_iconst eX9_isWord_11 ?_
    refine wp_icmp_ne eX9_isWord_12 (fun c12 => ?_) (fun c12 => ?_)
    · have hk9 : p_w b ti σ = false := by
        unfold p_w
        rw [decide_eq_false (fun q => by omega), Bool.false_and]
      rw [hk9] at k
      refine wp_iconst eX9_isWord_31 ?_
      refine wp_zreturn eX9_isWord_32 (by decide) ?_
      exact k
    · refine wp_aload_n eX9_isWord_15 rfl ?_
      refine gf_X9_114 eX9_isWord_16 ?_
      rw [hP.2.2.2.1]
      refine wp_aload_n eX9_isWord_19 rfl ?_
      refine gf_X9_117 eX9_isWord_20 ?_
      rw [hP.2.2.1]
      refine wp_isub eX9_isWord_23 ?_
      refine wp_aload_n eX9_isWord_24 rfl ?_
      refine ts_X9_133 eX9_isWord_25 (ct_sLen ht ?_) ht
      refine wp_icmp_eq eX9_isWord_28 (fun c28 => ?_) (fun c28 => ?_)
      · refine wp_iconst eX9_isWord_33 ?_
        refine ist_2 eX9_isWord_34 ?_
        refine lp_isWord hb hP hσ ht (by omega) (st_len ti).toNat 0 (by omega) (by omega) ?_
        have hk9 : p_w b ti σ = p_eq b σ.2.1 ti (st_len ti).toNat 0 := by
          unfold p_w
          rw [decide_eq_true ⟨he, by omega, by omega⟩, Bool.true_and]
        rw [hk9] at k
        exact k
      · have hk9 : p_w b ti σ = false := by
          unfold p_w
          rw [decide_eq_false (fun q => by omega), Bool.false_and]
        rw [hk9] at k
        refine wp_iconst eX9_isWord_31 ?_
        refine wp_zreturn eX9_isWord_32 (by decide) ?_
        exact k
theorem p_f_ne {c : Int} {σ : bl_s} (hc : c ≠ 0) : (p_f c σ).1 ≠ 0 := by
  unfold p_f
  by_cases h : σ.1 = 0
  · rw [if_pos h]; exact hc
  · rw [if_neg h]; exact h
theorem ct_read {G : bc_G} {M : bc_M} {post : bc_R → bc_M → Prop} {lo hi : Int} (hlo : 0 ≤ lo ∧ lo < 10000) (hhi : -1 ≤ hi ∧ hi < 10000) {b : Int → Int} {len : Int} (hb : BT M b len) {σ : bl_s} (hP : PG (M 33 0) len σ) (hσ : SG len σ) (k : ∀ g' : Int → Int, NF (M 33 0) g' → PG g' len (p_n b len lo hi σ) → ∀ v : Int, ((p_n b len lo hi σ).1 = 0 → v = σ.2.2.2.2) → post (.inr (some (vI v))) (bc_row M 33 0 g')) : bc_Call G yX9_read cX9_read 4 (some .int) 4 0 [vR G 33 0, vI lo, vI hi] M post := by
  have hk := mkd_r hσ.2.2.1
  have hv := hσ.2.2.2
  refine bc_enter (L := [some (vR G 33 0), some (vI lo), some (vI hi), none]) (by decide) rfl rfl ?_
  refine wp_aload_n eX9_read_0 rfl ?_
  refine gf_X9_120 eX9_read_1 ?_
  rw [hP.2.2.2.2.1]
  refine wp_iconst eX9_read_4 ?_
  refine wp_icmp_eq eX9_read_5 (fun c5 => ?_) (fun c5 => ?_)
  · refine wp_aload_n eX9_read_16 rfl ?_
    refine gf_X9_130 eX9_read_17 ?_
    rw [hP.2.2.2.2.2.1 (by omega)]
    refine wp_i2l eX9_read_20 ?_
    refine wp_iload_n eX9_read_21 rfl ?_
    refine wp_i2l eX9_read_22 ?_
    refine wp_iload_n eX9_read_23 rfl ?_
    refine wp_i2l eX9_read_24 ?_
    refine c_X9_75 eX9_read_25 (ct_mIsIn ?_)
    refine wp_if_ne eX9_read_28 (fun c28 => ?_) (fun c28 => ?_) (by split <;> omega)
    · have hin : lo ≤ σ.2.2.2.2 ∧ σ.2.2.2.2 ≤ hi := by
        apply Decidable.byContradiction
        intro h9
        rw [if_neg h9] at c28
        exact absurd rfl c28
      have hpn : p_n b len lo hi σ = p_a b len σ := by unfold p_n; rw [if_pos (by omega), if_pos hin]
      rw [hpn] at k
      refine wp_aload_n eX9_read_36 rfl ?_
      refine gf_X9_130 eX9_read_37 ?_
      rw [hP.2.2.2.2.2.1 (by omega)]
      refine ist_3 eX9_read_40 ?_
      refine wp_aload_n eX9_read_41 rfl ?_
      refine c_X9_146 eX9_read_42 (ct_next hb hP hσ (fun g2 n2 p2 => ?_))
      refine wp_iload_n eX9_read_45 rfl ?_
      refine wp_ireturn eX9_read_46 ?_
      exact k g2 n2 p2 _ (fun _ => rfl)
    · have hin : ¬ (lo ≤ σ.2.2.2.2 ∧ σ.2.2.2.2 ≤ hi) := by
        intro h9
        rw [if_pos h9] at c28
        exact c28 (by decide)
      have hpn : p_n b len lo hi σ = p_f 2 σ := by unfold p_n; rw [if_pos (by omega), if_neg hin]
      rw [hpn] at k
      refine wp_aload_n eX9_read_31 rfl ?_
      refine wp_iconst eX9_read_32 ?_
      refine c_X9_143 eX9_read_33 (ct_fail (c := 2) (by decide) hP hσ (fun g1 n1 p1 => ?_))
      refine wp_aload_n eX9_read_36 rfl ?_
      refine gf_X9_130 eX9_read_37 ?_
      rw [row_at]
      refine ist_3 eX9_read_40 ?_
      refine wp_aload_n eX9_read_41 rfl ?_
      refine c_X9_146 eX9_read_42 (ct_next (hb.row (by decide)) (by rw [row_at]; exact p1) (hσ.f (by decide)) (fun g2 n2 p2 => ?_))
      rw [row_at] at n2
      rw [p_a_e (by have := p_f_ne (c := 2) (σ := σ) (by decide); exact this)] at p2
      refine wp_iload_n eX9_read_45 rfl ?_
      refine wp_ireturn eX9_read_46 ?_
      rw [row_row]
      exact k g2 (n1.tr n2) p2 _ (fun z => absurd z (p_f_ne (by decide)))
  · have hpn : p_n b len lo hi σ = p_f 1 σ := by unfold p_n; rw [if_neg (by omega)]
    rw [hpn] at k
    refine wp_aload_n eX9_read_8 rfl ?_
    refine wp_iconst eX9_read_9 ?_
    refine c_X9_143 eX9_read_10 (ct_fail (c := 1) (by decide) hP hσ (fun g1 n1 p1 => ?_))
    refine wp_goto eX9_read_13 ?_
    refine wp_aload_n eX9_read_36 rfl ?_
    refine gf_X9_130 eX9_read_37 ?_
    rw [row_at]
    refine ist_3 eX9_read_40 ?_
    refine wp_aload_n eX9_read_41 rfl ?_
    refine c_X9_146 eX9_read_42 (ct_next (hb.row (by decide)) (by rw [row_at]; exact p1) (hσ.f (by decide)) (fun g2 n2 p2 => ?_))
    rw [row_at] at n2
    rw [p_a_e (by have := p_f_ne (c := 1) (σ := σ) (by decide); exact this)] at p2
    refine wp_iload_n eX9_read_45 rfl ?_
    refine wp_ireturn eX9_read_46 ?_
    rw [row_row]
    exact k g2 (n1.tr n2) p2 _ (fun z => absurd z (p_f_ne (by decide)))
theorem ct_expectSemi {G : bc_G} {M : bc_M} {post : bc_R → bc_M → Prop} {b : Int → Int} {len : Int} (hb : BT M b len) {σ : bl_s} (hP : PG (M 33 0) len σ) (hσ : SG len σ) (k : ∀ g' : Int → Int, NF (M 33 0) g' → PG g' len (p_s b len σ) → post (.inr none) (bc_row M 33 0 g')) : bc_Call G yX9_expectSemicolon cX9_expectSemicolon 1 none 4 0 [vR G 33 0] M post := by
  have hk := mkd_r hσ.2.2.1
  refine bc_enter (L := [some (vR G 33 0)]) (by decide) rfl rfl ?_
  refine wp_aload_n eX9_expectSemicolon_0 rfl ?_
  refine gf_X9_120 eX9_expectSemicolon_1 ?_
  rw [hP.2.2.2.2.1]
  refine wp_iconst eX9_expectSemicolon_4 ?_
  refine wp_icmp_eq eX9_expectSemicolon_5 (fun c5 => ?_) (fun c5 => ?_)
  · have hpn : p_s b len σ = p_a b len σ := by unfold p_s; rw [if_pos (by omega)]
    rw [hpn] at k
    refine wp_aload_n eX9_expectSemicolon_13 rfl ?_
    refine c_X9_146 eX9_expectSemicolon_14 (ct_next hb hP hσ (fun g2 n2 p2 => ?_))
    refine wp_return eX9_expectSemicolon_17 ?_
    exact k g2 n2 p2
  · have hpn : p_s b len σ = p_f 1 σ := by unfold p_s; rw [if_neg (by omega)]
    rw [hpn] at k
    refine wp_aload_n eX9_expectSemicolon_8 rfl ?_
    refine wp_iconst eX9_expectSemicolon_9 ?_
    refine c_X9_143 eX9_expectSemicolon_10 (ct_fail (c := 1) (by decide) hP hσ (fun g1 n1 p1 => ?_))
    refine wp_aload_n eX9_expectSemicolon_13 rfl ?_
    refine c_X9_146 eX9_expectSemicolon_14 (ct_next (hb.row (by decide)) (by rw [row_at]; exact p1) (hσ.f (by decide)) (fun g2 n2 p2 => ?_))
    rw [row_at] at n2
    rw [p_a_e (by have := p_f_ne (c := 1) (σ := σ) (by decide); exact this)] at p2
    refine wp_return eX9_expectSemicolon_17 ?_
    rw [row_row]
    exact k g2 (n1.tr n2) p2
