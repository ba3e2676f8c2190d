theorem lp_paBx {G : bc_G} {M : bc_M} {post : bc_R → bc_M → Prop} {b : Int → Int} {len : Int} (hb : BC M b len) : ∀ (n : Nat) (q : Int) (g : Int → Int) (h1 : q + n = len) (h0 : 0 ≤ q) (h2 : g 3 = q) (h0f : g 0 = 1) (h1f : g 1 = len) (k : bc_W G RX2 cX2_advance 2 none 5 0 0 54 [some (vR G 3 0), none] [] (bc_row M 3 0 (bc_u g 3 (lx_run lx_bl b len n q))) post), bc_W G RX2 cX2_advance 2 none 5 0 0 16 [some (vR G 3 0), none] [] (bc_row M 3 0 g) post := by
  intro n
  induction n with
  | zero =>
    intro q g h1 h0 h2 h0f h1f k
    have hl := hb.2
    refine wp_aload_n eX2_advance_16 rfl ?_
    refine gf_X2_22 eX2_advance_17 ?_
    rw [row_at, h2]
    refine wp_aload_n eX2_advance_20 rfl ?_
    refine gf_X2_15 eX2_advance_21 ?_
    rw [row_at, h1f]
    refine wp_icmp_ge eX2_advance_24 (fun c24 => ?_) (fun c24 => ?_)
    · simp only [lx_run] at k
      rw [show bc_u g 3 q = g by rw [← h2, bu_same]] at k
      exact k
    · omega
  | succ n ih =>
    intro q g h1 h0 h2 h0f h1f k
    have hl := hb.2
    refine wp_aload_n eX2_advance_16 rfl ?_
    refine gf_X2_22 eX2_advance_17 ?_
    rw [row_at, h2]
    refine wp_aload_n eX2_advance_20 rfl ?_
    refine gf_X2_15 eX2_advance_21 ?_
    rw [row_at, h1f]
    refine wp_icmp_ge eX2_advance_24 (fun c24 => ?_) (fun c24 => ?_)
    · omega
    · refine wp_aload_n eX2_advance_27 rfl ?_
      refine wp_aload_n eX2_advance_28 rfl ?_
      refine gf_X2_22 eX2_advance_29 ?_
      rw [row_at, h2]
      refine c_X2_126 eX2_advance_32 (ct_pByteAt (hb.row (by decide)) (by rw [row_at]; exact h0f) (by rw [row_at]; exact h1f) (x := q) (by omega) ?_)
      rw [if_pos (by omega)]
      have hbq := (hb.1 q (by omega) (by omega)).2
      refine c_X2_134 eX2_advance_35 (ct_pIsBlank (by omega) ?_)
      refine wp_if_eq eX2_advance_38 (fun c38 => ?_) (fun c38 => ?_) (by split <;> omega)
      · have h9 : ¬ lx_bl (b q) = true := by
          intro h9
          rw [if_pos h9] at c38
          exact absurd c38 (by decide)
        have hk9 : lx_run lx_bl b len (n + 1) q = q := by
          simp only [lx_run]
          rw [if_neg (fun z => h9 z.2)]
        rw [hk9] at k
        rw [show bc_u g 3 q = g by rw [← h2, bu_same]] at k
        exact k
      · have h9 : lx_bl (b q) = true := by
          apply Decidable.byContradiction
          intro h9
          rw [if_neg h9] at c38
          exact absurd rfl c38
        have hk9 : lx_run lx_bl b len (n + 1) q = lx_run lx_bl b len n (q + 1) := by
          simp only [lx_run]
          rw [if_pos ⟨by omega, h9⟩]
        rw [hk9] at k
        refine wp_aload_n eX2_advance_41 rfl ?_
        refine wp_dup eX2_advance_42 ?_
        refine gf_X2_22 eX2_advance_43 ?_
        rw [row_at, h2]
        refine wp_iconst eX2_advance_46 ?_
        refine wp_iadd eX2_advance_47 ?_
        refine pf_X2_22 eX2_advance_48 ?_
        refine wp_goto eX2_advance_51 ?_
        rw [up_row]
        exact ih (q + 1) (bc_u g 3 (q + 1)) (by omega) (by omega) (by rw [u_at]) (by rw [u_ne (by decide)]; exact h0f) (by rw [u_ne (by decide)]; exact h1f) (by rw [u_u]; exact k)
theorem ct_pReadWord {G : bc_G} {M : bc_M} {post : bc_R → bc_M → Prop} {b : Int → Int} {len : Int} (hb : BC M b len) {s : Int} (e0 : M 3 0 0 = 1) (e1 : M 3 0 1 = len) (e4 : M 3 0 4 = s) (hs : 0 ≤ s ∧ s ≤ len) (k : post (.inr none) (bc_row M 3 0 (bc_u (bc_u (M 3 0) 5 1) 4 (lxR lx_le b len s)))) : bc_Call G yX2_readWord cX2_readWord 1 none 3 0 [vR G 3 0] M post := by
  refine bc_enter (L := [some (vR G 3 0)]) (by decide) rfl rfl ?_
  rw [show M = bc_row M 3 0 (M 3 0) from row_self.symm]
  refine wp_aload_n eX2_readWord_0 rfl ?_
  refine wp_iconst eX2_readWord_1 ?_
  refine pf_X2_28 eX2_readWord_2 ?_
  rw [up_row]
  exact lp_paW hb (len - s).toNat s (bc_u (M 3 0) 5 1) (by omega) (by omega) (by rw [u_ne (by decide)]; exact e4) (by rw [u_ne (by decide)]; exact e0) (by rw [u_ne (by decide)]; exact e1) k
theorem lp_paN {G : bc_G} {M : bc_M} {post : bc_R → bc_M → Prop} {b : Int → Int} {len : Int} (hb : BC M b len) {s : Int} (hs0 : 0 ≤ s) : ∀ (n : Nat) (q : Int) (g : Int → Int) (v : Int) (h1 : q + n = len) (h0 : s ≤ q) (h2 : g 4 = q) (h0f : g 0 = 1) (h1f : g 1 = len) (h3 : g 3 = s) (h6 : g 6 = v) (k : bc_W G RX2 cX2_readNumber 1 none 3 0 0 74 [some (vR G 3 0)] [] (bc_row M 3 0 (bc_u (bc_u g 4 (lx_run lx_di b len n q)) 6 (lx_num b len s n q v))) post), bc_W G RX2 cX2_readNumber 1 none 3 0 0 0 [some (vR G 3 0)] [] (bc_row M 3 0 g) post := by
  intro n
  induction n with
  | zero =>
    intro q g v h1 h0 h2 h0f h1f h3 h6 k
    have hl := hb.2
    refine wp_aload_n eX2_readNumber_0 rfl ?_
    refine gf_X2_25 eX2_readNumber_1 ?_
    rw [row_at, h2]
    refine wp_aload_n eX2_readNumber_4 rfl ?_
    refine gf_X2_15 eX2_readNumber_5 ?_
    rw [row_at, h1f]
    refine wp_icmp_ge eX2_readNumber_8 (fun c8 => ?_) (fun c8 => ?_)
    · simp only [lx_run, lx_num] at k
      have e9 : bc_u (bc_u g 4 q) 6 v = g := by
        rw [show bc_u g 4 q = g by rw [← h2, bu_same], ← h6, bu_same]
      rw [e9] at k
      exact k
    · omega
  | succ n ih =>
    intro q g v h1 h0 h2 h0f h1f h3 h6 k
    have hl := hb.2
    refine wp_aload_n eX2_readNumber_0 rfl ?_
    refine gf_X2_25 eX2_readNumber_1 ?_
    rw [row_at, h2]
    refine wp_aload_n eX2_readNumber_4 rfl ?_
    refine gf_X2_15 eX2_readNumber_5 ?_
    rw [row_at, h1f]
    refine wp_icmp_ge eX2_readNumber_8 (fun c8 => ?_) (fun c8 => ?_)
    · omega
    · refine wp_aload_n eX2_readNumber_11 rfl ?_
      refine wp_aload_n eX2_readNumber_12 rfl ?_
      refine gf_X2_25 eX2_readNumber_13 ?_
      rw [row_at, h2]
      refine c_X2_126 eX2_readNumber_16 (ct_pByteAt (hb.row (by decide)) (by rw [row_at]; exact h0f) (by rw [row_at]; exact h1f) (x := q) (by omega) ?_)
      rw [if_pos (by omega)]
      have hbq := (hb.1 q (by omega) (by omega)).2
      refine c_X2_144 eX2_readNumber_19 (ct_pIsDigit (by omega) ?_)
      refine wp_if_eq eX2_readNumber_22 (fun c22 => ?_) (fun c22 => ?_) (by split <;> omega)
      · have h9 : ¬ (q < len ∧ lx_di (b q) = true) := by
          intro h9
          rw [if_pos h9.2] at c22
          exact absurd c22 (by decide)
        have hk9 : lx_run lx_di b len (n + 1) q = q := by
          simp only [lx_run]
          rw [if_neg h9]
        have hk8 : lx_num b len s (n + 1) q v = v := by
          simp only [lx_num]
          rw [if_neg h9]
        rw [hk9, hk8] at k
        have e9 : bc_u (bc_u g 4 q) 6 v = g := by
          rw [show bc_u g 4 q = g by rw [← h2, bu_same], ← h6, bu_same]
        rw [e9] at k
        exact k
      · have h9 : q < len ∧ lx_di (b q) = true := by
          refine ⟨by omega, ?_⟩
          apply Decidable.byContradiction
          intro h9
          rw [if_neg h9] at c22
          exact absurd rfl c22
        have hk9 : lx_run lx_di b len (n + 1) q = lx_run lx_di b len n (q + 1) := by
          simp only [lx_run]
          rw [if_pos h9]
        rw [hk9] at k
        refine wp_aload_n eX2_readNumber_25 rfl ?_
        refine gf_X2_25 eX2_readNumber_26 ?_
        rw [row_at, h2]
        refine wp_aload_n eX2_readNumber_29 rfl ?_
        refine gf_X2_22 eX2_readNumber_30 ?_
        rw [row_at, h3]
        refine wp_isub eX2_readNumber_33 ?_
        refine wp_iconst eX2_readNumber_34 ?_
        refine wp_icmp_ge eX2_readNumber_35 (fun c35 => ?_) (fun c35 => ?_)
        · have hk8 : lx_num b len s (n + 1) q v = lx_num b len s n (q + 1) (v) := by
            simp only [lx_num]
            rw [if_pos h9, if_neg (by omega)]
          rw [hk8] at k
          refine wp_aload_n eX2_readNumber_61 rfl ?_
          refine wp_dup eX2_readNumber_62 ?_
          refine gf_X2_25 eX2_readNumber_63 ?_
          rw [row_at, h2]
          refine wp_iconst eX2_readNumber_66 ?_
          refine wp_iadd eX2_readNumber_67 ?_
          refine pf_X2_25 eX2_readNumber_68 ?_
          refine wp_goto eX2_readNumber_71 ?_
          rw [up_row]
          exact ih (q + 1) (bc_u g 4 (q + 1)) v (by omega) (by omega) (by rw [u_at]) (by rw [u_ne (by decide)]; exact h0f) (by rw [u_ne (by decide)]; exact h1f) (by rw [u_ne (by decide)]; exact h3) (by rw [u_ne (by decide)]; exact h6) (by rw [u_u]; exact k)
        · have hk8 : lx_num b len s (n + 1) q v = lx_num b len s n (q + 1) (10 * v + b q - 48) := by
            simp only [lx_num]
            rw [if_pos h9, if_pos (by omega)]
          rw [hk8] at k
          refine wp_aload_n eX2_readNumber_38 rfl ?_
          refine wp_aload_n eX2_readNumber_39 rfl ?_
          refine gf_X2_31 eX2_readNumber_40 ?_
          rw [row_at, h6]
          refine wp_bipush eX2_readNumber_43 ?_
          refine wp_imul eX2_readNumber_45 ?_
          refine wp_aload_n eX2_readNumber_46 rfl ?_
          refine wp_aload_n eX2_readNumber_47 rfl ?_
          refine gf_X2_25 eX2_readNumber_48 ?_
          rw [row_at, h2]
          refine c_X2_126 eX2_readNumber_51 (ct_pByteAt (hb.row (by decide)) (by rw [row_at]; exact h0f) (by rw [row_at]; exact h1f) (x := q) (by omega) ?_)
          rw [if_pos (by omega)]
          have hbq := (hb.1 q (by omega) (by omega)).2
          refine wp_iadd eX2_readNumber_54 ?_
          refine wp_bipush eX2_readNumber_55 ?_
          refine wp_isub eX2_readNumber_57 ?_
          refine pf_X2_31 eX2_readNumber_58 ?_
          refine wp_aload_n eX2_readNumber_61 rfl ?_
          refine wp_dup eX2_readNumber_62 ?_
          refine gf_X2_25 eX2_readNumber_63 ?_
          refine wp_iconst eX2_readNumber_66 ?_
          refine wp_iadd eX2_readNumber_67 ?_
          refine pf_X2_25 eX2_readNumber_68 ?_
          refine wp_goto eX2_readNumber_71 ?_
          rw [up_row, up_row, row_at, u_ne (by decide), h2, Int.mul_comm v 10]
          refine ih (q + 1) (bc_u (bc_u g 6 (10 * v + b q - 48)) 4 (q + 1)) (10 * v + b q - 48) (by omega) (by omega) (by rw [u_at]) (by rw [u_ne (by decide), u_ne (by decide)]; exact h0f) (by rw [u_ne (by decide), u_ne (by decide)]; exact h1f) (by rw [u_ne (by decide), u_ne (by decide)]; exact h3) (by rw [u_ne (by decide), u_at]) ?_
          rw [u_u, u_sw (by decide), u_u, u_sw (f := 6) (by decide)]
          exact k
theorem ct_pReadNumber {G : bc_G} {M : bc_M} {post : bc_R → bc_M → Prop} {b : Int → Int} {len : Int} (hb : BC M b len) {s : Int} (e0 : M 3 0 0 = 1) (e1 : M 3 0 1 = len) (e3 : M 3 0 3 = s) (e4 : M 3 0 4 = s) (e6 : M 3 0 6 = 0) (hs : 0 ≤ s ∧ s ≤ len) (k : post (.inr none) (bc_row M 3 0 (bc_u (bc_u (bc_u (M 3 0) 4 (lxR lx_di b len s)) 6 (lx_num b len s (len - s).toNat s 0)) 5 (if lxR lx_di b len s - s ≤ 4 then 2 else 4)))) : bc_Call G yX2_readNumber cX2_readNumber 1 none 3 0 [vR G 3 0] M post := by
  have hl := hb.2
  refine bc_enter (L := [some (vR G 3 0)]) (by decide) rfl rfl ?_
  rw [show M = bc_row M 3 0 (M 3 0) from row_self.symm]
  refine lp_paN hb hs.1 (len - s).toNat s (M 3 0) 0 (by omega) (by omega) e4 e0 e1 e3 e6 ?_
  rw [show bc_u (bc_u (M 3 0) 4 (lx_run lx_di b len (len - s).toNat s)) 6 (lx_num b len s (len - s).toNat s 0) = bc_u (bc_u (M 3 0) 4 (lxR lx_di b len s)) 6 (lx_num b len s (len - s).toNat s 0) from rfl]
  refine wp_aload_n eX2_readNumber_74 rfl ?_
  refine wp_aload_n eX2_readNumber_75 rfl ?_
  refine gf_X2_25 eX2_readNumber_76 ?_
  rw [row_at, u_ne (by decide), u_at]
  have hrr := lxR_r (P := lx_di) (b := b) (len := len) (p := s) (by omega)
  refine wp_aload_n eX2_readNumber_79 rfl ?_
  refine gf_X2_22 eX2_readNumber_80 ?_
  rw [row_at, u_ne (by decide), u_ne (by decide), e3]
  refine wp_isub eX2_readNumber_83 ?_
  refine wp_iconst eX2_readNumber_84 ?_
  refine wp_icmp_gt eX2_readNumber_85 (fun c85 => ?_) (fun c85 => ?_)
  · rw [if_neg (by omega)] at k
    refine wp_iconst eX2_readNumber_92 ?_
    refine pf_X2_28 eX2_readNumber_93 ?_
    refine wp_return eX2_readNumber_96 ?_
    rw [up_row]
    exact k
  · rw [if_pos (by omega)] at k
    refine wp_iconst eX2_readNumber_88 ?_
    refine wp_goto eX2_readNumber_89 ?_
    refine pf_X2_28 eX2_readNumber_93 ?_
    refine wp_return eX2_readNumber_96 ?_
    rw [up_row]
    exact k
set_option maxHeartbeats 1000000 in
theorem ct_pAdvF {G : bc_G} {M : bc_M} {post : bc_R → bc_M → Prop} {b : Int → Int} {len : Int} (hb : BC M b len) {en0 : Int} (e0 : M 3 0 0 = 1) (e1 : M 3 0 1 = len) (e2 : M 3 0 2 = 0) (e4 : M 3 0 4 = en0) (hen : 0 ≤ en0 ∧ en0 ≤ len) (k : ∀ g' : Int → Int, PC g' len (0, lx b len en0) → post (.inr none) (bc_row M 3 0 g')) : bc_Call G yX2_advance cX2_advance 2 none 5 0 [vR G 3 0] M post := by
  have hl := hb.2
  have hsr := lxS_r (b := b) (p := en0) hen.2
  refine bc_enter (L := [some (vR G 3 0), none]) (by decide) rfl rfl ?_
  refine wp_aload_n eX2_advance_0 rfl ?_
  refine gf_X2_19 eX2_advance_1 ?_
  rw [e2]
  refine wp_if_eq eX2_advance_4 (fun c4 => ?_) (fun c4 => ?_)
  · refine wp_aload_n eX2_advance_8 rfl ?_
    refine wp_aload_n eX2_advance_9 rfl ?_
    refine gf_X2_25 eX2_advance_10 ?_
    rw [e4]
    refine pf_X2_22 eX2_advance_13 ?_
    rw [show M = bc_row M 3 0 (M 3 0) from row_self.symm]
    rw [up_row]
    refine lp_paBx hb (len - en0).toNat en0 (bc_u (M 3 0) 3 en0) (by omega) (by omega) (by rw [u_at]) (by rw [u_ne (by decide)]; exact e0) (by rw [u_ne (by decide)]; exact e1) ?_
    rw [u_u, show lx_run lx_bl b len (len - en0).toNat en0 = (lxS b len en0) from rfl]
    refine wp_aload_n eX2_advance_54 rfl ?_
    refine wp_aload_n eX2_advance_55 rfl ?_
    refine gf_X2_22 eX2_advance_56 ?_
    rw [row_at, u_at]
    refine pf_X2_25 eX2_advance_59 ?_
    rw [up_row]
    refine wp_aload_n eX2_advance_62 rfl ?_
    refine wp_iconst eX2_advance_63 ?_
    refine pf_X2_31 eX2_advance_64 ?_
    rw [up_row]
    refine wp_aload_n eX2_advance_67 rfl ?_
    refine wp_aload_n eX2_advance_68 rfl ?_
    refine gf_X2_22 eX2_advance_69 ?_
    rw [row_at, u_ne (by decide), u_ne (by decide), u_at]
    refine c_X2_126 eX2_advance_72 (ct_pByteAt (hb.row (by decide)) (by rw [row_at, u_ne (by decide), u_ne (by decide), u_ne (by decide)]; exact e0) (by rw [row_at, u_ne (by decide), u_ne (by decide), u_ne (by decide)]; exact e1) (x := (lxS b len en0)) (by omega) ?_)
    refine ist_1 eX2_advance_75 ?_
    refine wp_iload_n eX2_advance_76 rfl ?_
    have hr77 : -1 ≤ (if (lxS b len en0) < len then b (lxS b len en0) else -1) ∧ (if (lxS b len en0) < len then b (lxS b len en0) else -1) ≤ 255 := by
      split
      · have := (hb.1 (lxS b len en0) (by omega) (by assumption)).2; omega
      · omega
    refine wp_if_ge eX2_advance_77 (fun c77 => ?_) (fun c77 => ?_)
    · have hlt : (lxS b len en0) < len := by
        apply Decidable.byContradiction
        intro h9
        rw [if_neg h9] at c77
        exact absurd c77 (by decide)
      rw [if_pos hlt]
      have hbs := (hb.1 (lxS b len en0) (by omega) hlt).2
      refine wp_iload_n eX2_advance_88 rfl ?_
      refine c_X2_138 eX2_advance_89 (ct_pIsLetter (by omega) ?_)
      refine wp_if_eq eX2_advance_92 (fun c92 => ?_) (fun c92 => ?_) (by split <;> omega)
      · have hle : ¬ lx_le (b (lxS b len en0)) = true := by
          intro h9
          rw [if_pos h9] at c92
          exact absurd c92 (by decide)
        refine wp_iload_n eX2_advance_102 rfl ?_
        refine c_X2_144 eX2_advance_103 (ct_pIsDigit (by omega) ?_)
        refine wp_if_eq eX2_advance_106 (fun c106 => ?_) (fun c106 => ?_) (by split <;> omega)
        · have hdi : ¬ lx_di (b (lxS b len en0)) = true := by
            intro h9
            rw [if_pos h9] at c106
            exact absurd c106 (by decide)
          refine wp_aload_n eX2_advance_116 rfl ?_
          refine wp_iload_n eX2_advance_117 rfl ?_
          refine wp_bipush eX2_advance_118 ?_
          refine wp_icmp_ne eX2_advance_120 (fun c120 => ?_) (fun c120 => ?_)
          · refine wp_iconst eX2_advance_127 ?_
            refine pf_X2_28 eX2_advance_128 ?_
            rw [up_row]
            refine wp_aload_n eX2_advance_131 rfl ?_
            refine wp_aload_n eX2_advance_132 rfl ?_
            refine gf_X2_22 eX2_advance_133 ?_
            rw [row_at, u_ne (by decide), u_ne (by decide), u_ne (by decide), u_at]
            refine wp_iconst eX2_advance_136 ?_
            refine wp_iadd eX2_advance_137 ?_
            refine pf_X2_25 eX2_advance_138 ?_
            refine wp_return eX2_advance_141 ?_
            rw [up_row]
            have hat : lx_at b len (lxS b len en0) = ((lxS b len en0), (lxS b len en0) + 1, 4, 0) := by
              unfold lx_at
              rw [if_neg (by omega), if_neg hle, if_neg hdi, if_neg (by omega)]
            have hpk : ∀ t : bl_t, lx_at b len (lxS b len en0) = t → lx b len en0 = t := fun t h => h
            rw [hpk _ hat] at k
            refine k _ ⟨⟨by simp [bc_u, e0], by simp [bc_u, e1]⟩, by simp [bc_u, e2], by simp [bc_u], by simp [bc_u], by simp [bc_u], by simp [bc_u]⟩
          · refine wp_iconst eX2_advance_123 ?_
            refine wp_goto eX2_advance_124 ?_
            refine pf_X2_28 eX2_advance_128 ?_
            rw [up_row]
            refine wp_aload_n eX2_advance_131 rfl ?_
            refine wp_aload_n eX2_advance_132 rfl ?_
            refine gf_X2_22 eX2_advance_133 ?_
            rw [row_at, u_ne (by decide), u_ne (by decide), u_ne (by decide), u_at]
            refine wp_iconst eX2_advance_136 ?_
            refine wp_iadd eX2_advance_137 ?_
            refine pf_X2_25 eX2_advance_138 ?_
            refine wp_return eX2_advance_141 ?_
            rw [up_row]
            have hat : lx_at b len (lxS b len en0) = ((lxS b len en0), (lxS b len en0) + 1, 3, 0) := by
              unfold lx_at
              rw [if_neg (by omega), if_neg hle, if_neg hdi, if_pos (by omega)]
            have hpk : ∀ t : bl_t, lx_at b len (lxS b len en0) = t → lx b len en0 = t := fun t h => h
            rw [hpk _ hat] at k
            refine k _ ⟨⟨by simp [bc_u, e0], by simp [bc_u, e1]⟩, by simp [bc_u, e2], by simp [bc_u], by simp [bc_u], by simp [bc_u], by simp [bc_u]⟩
        · have hdi : lx_di (b (lxS b len en0)) = true := by
            apply Decidable.byContradiction
            intro h9
            rw [if_neg h9] at c106
            exact absurd rfl c106
          refine wp_aload_n eX2_advance_109 rfl ?_
          refine c_X2_147 eX2_advance_110 (ct_pReadNumber (s := (lxS b len en0)) (hb.row (by decide)) (by rw [row_at, u_ne (by decide), u_ne (by decide), u_ne (by decide)]; exact e0) (by rw [row_at, u_ne (by decide), u_ne (by decide), u_ne (by decide)]; exact e1) (by rw [row_at, u_ne (by decide), u_ne (by decide), u_at]) (by rw [row_at, u_ne (by decide), u_at]) (by rw [row_at, u_at]) (by omega) ?_)
          rw [row_at, row_row]
          refine wp_goto eX2_advance_113 ?_
          refine wp_return eX2_advance_141 ?_
          have hat : lx_at b len (lxS b len en0) = ((lxS b len en0), lxR lx_di b len (lxS b len en0), (if lxR lx_di b len (lxS b len en0) - (lxS b len en0) ≤ 4 then 2 else 4), lx_num b len (lxS b len en0) (len - (lxS b len en0)).toNat (lxS b len en0) 0) := by unfold lx_at; rw [if_neg (by omega), if_neg hle, if_pos hdi]
          have hpk : ∀ t : bl_t, lx_at b len (lxS b len en0) = t → lx b len en0 = t := fun t h => h
          rw [hpk _ hat] at k
          refine k _ ⟨⟨by simp [bc_u, e0], by simp [bc_u, e1]⟩, by simp [bc_u, e2], by simp [bc_u], by simp [bc_u], by simp [bc_u], by simp [bc_u]⟩
      · have hle : lx_le (b (lxS b len en0)) = true := by
          apply Decidable.byContradiction
          intro h9
          rw [if_neg h9] at c92
          exact absurd rfl c92
        refine wp_aload_n eX2_advance_95 rfl ?_
        refine c_X2_141 eX2_advance_96 (ct_pReadWord (s := (lxS b len en0)) (hb.row (by decide)) (by rw [row_at, u_ne (by decide), u_ne (by decide), u_ne (by decide)]; exact e0) (by rw [row_at, u_ne (by decide), u_ne (by decide), u_ne (by decide)]; exact e1) (by rw [row_at, u_ne (by decide), u_at]) (by omega) ?_)
        rw [row_at, row_row]
        refine wp_goto eX2_advance_99 ?_
        refine wp_return eX2_advance_141 ?_
        have hat : lx_at b len (lxS b len en0) = ((lxS b len en0), lxR lx_le b len (lxS b len en0), 1, 0) := by unfold lx_at; rw [if_neg (by omega), if_pos hle]
        have hpk : ∀ t : bl_t, lx_at b len (lxS b len en0) = t → lx b len en0 = t := fun t h => h
        rw [hpk _ hat] at k
        refine k _ ⟨⟨by simp [bc_u, e0], by simp [bc_u, e1]⟩, by simp [bc_u, e2], by simp [bc_u], by simp [bc_u], by simp [bc_u], by simp [bc_u]⟩
    · have hlt : ¬ (lxS b len en0) < len := by
        intro h9
        rw [if_pos h9] at c77
        have := (hb.1 (lxS b len en0) (by omega) h9).2
        omega
      refine wp_aload_n eX2_advance_80 rfl ?_
      refine wp_iconst eX2_advance_81 ?_
      refine pf_X2_28 eX2_advance_82 ?_
      refine wp_goto eX2_advance_85 ?_
      refine wp_return eX2_advance_141 ?_
      rw [up_row]
      have hat : lx_at b len (lxS b len en0) = ((lxS b len en0), (lxS b len en0), 0, 0) := by unfold lx_at; rw [if_pos (by omega)]
      have hpk : ∀ t : bl_t, lx_at b len (lxS b len en0) = t → lx b len en0 = t := fun t h => h
      rw [hpk _ hat] at k
      refine k _ ⟨⟨by simp [bc_u, e0], by simp [bc_u, e1]⟩, by simp [bc_u, e2], by simp [bc_u], by simp [bc_u], by simp [bc_u], by simp [bc_u]⟩
  · exact absurd rfl c4
theorem ct_pAdv {G : bc_G} {M : bc_M} {post : bc_R → bc_M → Prop} {b : Int → Int} {len : Int} (hb : BC M b len) {σ : bl_s} (hP : PC (M 3 0) len σ) (hσ : SG len σ) (k : ∀ g' : Int → Int, PC g' len (p_a b len σ) → post (.inr none) (bc_row M 3 0 g')) : bc_Call G yX2_advance cX2_advance 2 none 5 0 [vR G 3 0] M post := by
  by_cases he : σ.1 = 0
  · have hs1 := hσ.2.1
    rw [show p_a b len σ = (0, lx b len σ.2.2.1) from if_pos he] at k
    exact ct_pAdvF hb hP.1.1 hP.1.2 (by rw [hP.2.1]; exact he) hP.2.2.2.1 (by omega) k
  · refine bc_enter (L := [some (vR G 3 0), none]) (by decide) rfl rfl ?_
    have hr := hσ.1
    refine wp_aload_n eX2_advance_0 rfl ?_
    refine gf_X2_19 eX2_advance_1 ?_
    rw [hP.2.1]
    refine wp_if_eq eX2_advance_4 (fun c4 => ?_) (fun c4 => ?_)
    · exact absurd c4 he
    · refine wp_return eX2_advance_7 ?_
      rw [p_a_e he] at k
      have k9 := k (M 3 0) hP
      rw [row_self] at k9
      exact k9
