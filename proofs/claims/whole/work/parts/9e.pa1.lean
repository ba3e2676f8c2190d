theorem pf_text {G : bc_G} {cc : ByteArray} {mL : Nat} {rt : Option FieldType} {d N u pc pc' : Nat} {L : List (Option Value)} {st : List Value} {M : bc_M} {post : bc_R → bc_M → Prop} (hd : bc_d cc pc (.putfield 9) 3 pc') (K : bc_W G RX2 cc mL rt d N u pc' L st (bc_up M 3 0 0 1) post) : bc_W G RX2 cc mL rt d N u pc L (vR G 2 0 :: vR G 3 0 :: st) M post := bc_put (k := 3) (f := 0) (ci := 2) (x := 1) (v := vR G 2 0) hd rfl in_X2 tyX2_ok nmX2 (by decide) rfl mw_142 rfl (by simp [bc_e, bc_u]) (Nat.le_of_ble_eq_true rfl) rfl rfl (by decide) K
theorem wp_len2 {G : bc_G} {cc : ByteArray} {mL : Nat} {rt : Option FieldType} {d N u pc pc' : Nat} {L : List (Option Value)} {st : List Value} {M : bc_M} {post : bc_R → bc_M → Prop} {own : String} (hd : bc_d cc pc .arraylength 1 pc') (K : bc_W G own cc mL rt d N u pc' L (vI 500 :: st) M post) : bc_W G own cc mL rt d N u pc L (vR G 2 0 :: st) M post := by
  intro p e s m args below meth c H locs ls C hl hH hS
  obtain ⟨hd, rfl⟩ := hd
  have ha := hH.2 2 0 (by decide) (by decide)
  exact va_alen C.1 C.2.1 C.2.2.2.2.2.2.2.2.1.1 (bc_one ha) 0 1 rfl (bc_tyAt C.2.2.2.2.2.2.2.2.2.1 1 rfl) (v := Int32.ofInt 500) rfl hd (K p e s m args below meth c H locs ls C hl hH hS)
/-- the text that the class reads -/
def BC (M : bc_M) (b : Int → Int) (len : Int) : Prop := (∀ q, 0 ≤ q → q < len → bx_and (M 2 0 q) 255 = b q ∧ 0 ≤ b q ∧ b q ≤ 255) ∧ 0 ≤ len ∧ len ≤ 500
/-- the parser's state in its fields -/
def PC (g : Int → Int) (len : Int) (σ : bl_s) : Prop := (g 0 = 1 ∧ g 1 = len) ∧ g 2 = σ.1 ∧ g 3 = σ.2.1 ∧ g 4 = σ.2.2.1 ∧ g 5 = σ.2.2.2.1 ∧ g 6 = σ.2.2.2.2
theorem BC.row {M : bc_M} {b g : Int → Int} {len : Int} {k : Nat} {j : Int} (h : BC M b len) (hk : k ≠ 2) : BC (bc_row M k j g) b len := by
  unfold BC at h ⊢
  rw [row_kne (fun e => hk e.symm)]
  exact h
theorem ct_pByteAt {G : bc_G} {M : bc_M} {post : bc_R → bc_M → Prop} {x : Int} {b : Int → Int} {len : Int} (hb : BC M b len) (e0 : M 3 0 0 = 1) (e1 : M 3 0 1 = len) (hx : 0 ≤ x ∧ x ≤ len) (k : post (.inr (some (vI (if x < len then b x else -1)))) M) : bc_Call G yX2_byteAt cX2_byteAt 2 (some .int) 1 0 [vR G 3 0, vI x] M post := by
  have hl := hb.2
  refine bc_enter (L := [some (vR G 3 0), some (vI x)]) (by decide) rfl rfl ?_
  refine wp_iload_n eX2_byteAt_0 rfl ?_
  refine wp_if_lt eX2_byteAt_1 (fun c1 => ?_) (fun c1 => ?_)
  · omega
  · refine wp_iload_n eX2_byteAt_4 rfl ?_
    refine wp_aload_n eX2_byteAt_5 rfl ?_
    refine gf_X2_15 eX2_byteAt_6 ?_
    rw [e1]
    refine wp_icmp_ge eX2_byteAt_9 (fun c9 => ?_) (fun c9 => ?_)
    · rw [if_neg (by omega)] at k
      refine wp_iconst eX2_byteAt_34 ?_
      refine wp_ireturn eX2_byteAt_35 ?_
      exact k
    · rw [if_pos (by omega)] at k
      refine wp_iload_n eX2_byteAt_12 rfl ?_
      refine wp_aload_n eX2_byteAt_13 rfl ?_
      refine gf_X2_9 eX2_byteAt_14 ?_
      rw [e0, if_neg (by decide)]
      refine wp_len2 eX2_byteAt_17 ?_
      refine wp_icmp_ge eX2_byteAt_18 (fun c18 => ?_) (fun c18 => ?_)
      · omega
      · refine wp_aload_n eX2_byteAt_21 rfl ?_
        refine gf_X2_9 eX2_byteAt_22 ?_
        rw [e0, if_neg (by decide)]
        refine wp_iload_n eX2_byteAt_25 rfl ?_
        refine al_2 eX2_byteAt_26 ?_
        refine wp_sipush eX2_byteAt_27 ?_
        refine wp_iand eX2_byteAt_30 ?_
        rw [(hb.1 x (by omega) (by omega)).1]
        refine wp_goto eX2_byteAt_31 ?_
        refine wp_ireturn eX2_byteAt_35 ?_
        exact k
theorem ct_pIsBlank {G : bc_G} {M : bc_M} {post : bc_R → bc_M → Prop} {c : Int} (hc : -1 ≤ c ∧ c ≤ 255) (k : post (.inr (some (vI (if lx_bl c = true then 1 else 0)))) M) : bc_Call G yX2_isBlank cX2_isBlank 1 (some .boolean) 1 0 [vI c] M post := by
  refine bc_enter (L := [some (vI c)]) (by decide) rfl rfl ?_
  refine wp_iload_n eX2_isBlank_0 rfl ?_
  refine wp_bipush eX2_isBlank_1 ?_
  refine wp_icmp_eq eX2_isBlank_3 (fun c3 => ?_) (fun c3 => ?_)
  · have hk9 : lx_bl c = true := decide_eq_true (by omega)
    rw [hk9] at k
    refine wp_iconst eX2_isBlank_12 ?_
    refine wp_goto eX2_isBlank_13 ?_
    refine wp_zreturn eX2_isBlank_17 (by decide) ?_
    exact k
  · refine wp_iload_n eX2_isBlank_6 rfl ?_
    refine wp_bipush eX2_isBlank_7 ?_
    refine wp_icmp_ne eX2_isBlank_9 (fun c9 => ?_) (fun c9 => ?_)
    · have hk9 : lx_bl c = false := decide_eq_false (by omega)
      rw [hk9] at k
      refine wp_iconst eX2_isBlank_16 ?_
      refine wp_zreturn eX2_isBlank_17 (by decide) ?_
      exact k
    · have hk9 : lx_bl c = true := decide_eq_true (by omega)
      rw [hk9] at k
      refine wp_iconst eX2_isBlank_12 ?_
      refine wp_goto eX2_isBlank_13 ?_
      refine wp_zreturn eX2_isBlank_17 (by decide) ?_
      exact k
theorem ct_pIsLetter {G : bc_G} {M : bc_M} {post : bc_R → bc_M → Prop} {c : Int} (hc : -1 ≤ c ∧ c ≤ 255) (k : post (.inr (some (vI (if lx_le c = true then 1 else 0)))) M) : bc_Call G yX2_isLetter cX2_isLetter 1 (some .boolean) 1 0 [vI c] M post := by
  refine bc_enter (L := [some (vI c)]) (by decide) rfl rfl ?_
  refine wp_iload_n eX2_isLetter_0 rfl ?_
  refine wp_bipush eX2_isLetter_1 ?_
  refine wp_icmp_lt eX2_isLetter_3 (fun c3 => ?_) (fun c3 => ?_)
  · have hk9 : lx_le c = false := decide_eq_false (by omega)
    rw [hk9] at k
    refine wp_iconst eX2_isLetter_16 ?_
    refine wp_zreturn eX2_isLetter_17 (by decide) ?_
    exact k
  · refine wp_iload_n eX2_isLetter_6 rfl ?_
    refine wp_bipush eX2_isLetter_7 ?_
    refine wp_icmp_gt eX2_isLetter_9 (fun c9 => ?_) (fun c9 => ?_)
    · have hk9 : lx_le c = false := decide_eq_false (by omega)
      rw [hk9] at k
      refine wp_iconst eX2_isLetter_16 ?_
      refine wp_zreturn eX2_isLetter_17 (by decide) ?_
      exact k
    · have hk9 : lx_le c = true := decide_eq_true (by omega)
      rw [hk9] at k
      refine wp_iconst eX2_isLetter_12 ?_
      refine wp_goto eX2_isLetter_13 ?_
      refine wp_zreturn eX2_isLetter_17 (by decide) ?_
      exact k
theorem ct_pIsDigit {G : bc_G} {M : bc_M} {post : bc_R → bc_M → Prop} {c : Int} (hc : -1 ≤ c ∧ c ≤ 255) (k : post (.inr (some (vI (if lx_di c = true then 1 else 0)))) M) : bc_Call G yX2_isDigit cX2_isDigit 1 (some .boolean) 1 0 [vI c] M post := by
  refine bc_enter (L := [some (vI c)]) (by decide) rfl rfl ?_
  refine wp_iload_n eX2_isDigit_0 rfl ?_
  refine wp_bipush eX2_isDigit_1 ?_
  refine wp_icmp_lt eX2_isDigit_3 (fun c3 => ?_) (fun c3 => ?_)
  · have hk9 : lx_di c = false := decide_eq_false (by omega)
    rw [hk9] at k
    refine wp_iconst eX2_isDigit_16 ?_
    refine wp_zreturn eX2_isDigit_17 (by decide) ?_
    exact k
  · refine wp_iload_n eX2_isDigit_6 rfl ?_
    refine wp_bipush eX2_isDigit_7 ?_
    refine wp_icmp_gt eX2_isDigit_9 (fun c9 => ?_) (fun c9 => ?_)
    · have hk9 : lx_di c = false := decide_eq_false (by omega)
      rw [hk9] at k
      refine wp_iconst eX2_isDigit_16 ?_
      refine wp_zreturn eX2_isDigit_17 (by decide) ?_
      exact k
    · have hk9 : lx_di c = true := decide_eq_true (by omega)
      rw [hk9] at k
      refine wp_iconst eX2_isDigit_12 ?_
      refine wp_goto eX2_isDigit_13 ?_
      refine wp_zreturn eX2_isDigit_17 (by decide) ?_
      exact k
theorem lp_paW {G : bc_G} {M : bc_M} {post : bc_R → bc_M → Prop} {b : Int → Int} {len : Int} (hb : BC M b len) : ∀ (n : Nat) (q : Int) (g : Int → Int) (h1 : q + n = len) (h0 : 0 ≤ q) (h2 : g 4 = q) (h0f : g 0 = 1) (h1f : g 1 = len) (k : post (.inr none) (bc_row M 3 0 (bc_u g 4 (lx_run lx_le b len n q)))), bc_W G RX2 cX2_readWord 1 none 3 0 0 5 [some (vR G 3 0)] [] (bc_row M 3 0 g) post := by
  intro n
  induction n with
  | zero =>
    intro q g h1 h0 h2 h0f h1f k
    have hl := hb.2
    refine wp_aload_n eX2_readWord_5 rfl ?_
    refine gf_X2_25 eX2_readWord_6 ?_
    rw [row_at, h2]
    refine wp_aload_n eX2_readWord_9 rfl ?_
    refine gf_X2_15 eX2_readWord_10 ?_
    rw [row_at, h1f]
    refine wp_icmp_ge eX2_readWord_13 (fun c13 => ?_) (fun c13 => ?_)
    · simp only [lx_run] at k
      rw [show bc_u g 4 q = g by rw [← h2, bu_same]] at k
      refine wp_return eX2_readWord_43 ?_
      exact k
    · omega
  | succ n ih =>
    intro q g h1 h0 h2 h0f h1f k
    have hl := hb.2
    refine wp_aload_n eX2_readWord_5 rfl ?_
    refine gf_X2_25 eX2_readWord_6 ?_
    rw [row_at, h2]
    refine wp_aload_n eX2_readWord_9 rfl ?_
    refine gf_X2_15 eX2_readWord_10 ?_
    rw [row_at, h1f]
    refine wp_icmp_ge eX2_readWord_13 (fun c13 => ?_) (fun c13 => ?_)
    · omega
    · refine wp_aload_n eX2_readWord_16 rfl ?_
      refine wp_aload_n eX2_readWord_17 rfl ?_
      refine gf_X2_25 eX2_readWord_18 ?_
      rw [row_at, h2]
      refine c_X2_126 eX2_readWord_21 (ct_pByteAt (hb.row (by decide)) (by rw [row_at]; exact h0f) (by rw [row_at]; exact h1f) (x := q) (by omega) ?_)
      rw [if_pos (by omega)]
      have hbq := (hb.1 q (by omega) (by omega)).2
      refine c_X2_138 eX2_readWord_24 (ct_pIsLetter (by omega) ?_)
      refine wp_if_eq eX2_readWord_27 (fun c27 => ?_) (fun c27 => ?_) (by split <;> omega)
      · have h9 : ¬ lx_le (b q) = true := by
          intro h9
          rw [if_pos h9] at c27
          exact absurd c27 (by decide)
        have hk9 : lx_run lx_le b len (n + 1) q = q := by
          simp only [lx_run]
          rw [if_neg (fun z => h9 z.2)]
        rw [hk9] at k
        rw [show bc_u g 4 q = g by rw [← h2, bu_same]] at k
        refine wp_return eX2_readWord_43 ?_
        exact k
      · have h9 : lx_le (b q) = true := by
          apply Decidable.byContradiction
          intro h9
          rw [if_neg h9] at c27
          exact absurd rfl c27
        have hk9 : lx_run lx_le b len (n + 1) q = lx_run lx_le b len n (q + 1) := by
          simp only [lx_run]
          rw [if_pos ⟨by omega, h9⟩]
        rw [hk9] at k
        refine wp_aload_n eX2_readWord_30 rfl ?_
        refine wp_dup eX2_readWord_31 ?_
        refine gf_X2_25 eX2_readWord_32 ?_
        rw [row_at, h2]
        refine wp_iconst eX2_readWord_35 ?_
        refine wp_iadd eX2_readWord_36 ?_
        refine pf_X2_25 eX2_readWord_37 ?_
        refine wp_goto eX2_readWord_40 ?_
        rw [up_row]
        exact ih (q + 1) (bc_u g 4 (q + 1)) (by omega) (by omega) (by rw [u_at]) (by rw [u_ne (by decide)]; exact h0f) (by rw [u_ne (by decide)]; exact h1f) (by rw [u_u]; exact k)
theorem lp_paB {G : bc_G} {M : bc_M} {post : bc_R → bc_M → Prop} {b : Int → Int} {len : Int} (hb : BC M b len) : ∀ (n : Nat) (q : Int) (g : Int → Int) (h1 : q + n = len) (h0 : 0 ≤ q) (h2 : g 3 = q) (h0f : g 0 = 1) (h1f : g 1 = len) (k : bc_W G RX2 cX2_advance 2 none 3 0 0 54 [some (vR G 3 0), none] [] (bc_row M 3 0 (bc_u g 3 (lx_run lx_bl b len n q))) post), bc_W G RX2 cX2_advance 2 none 3 0 0 16 [some (vR G 3 0), none] [] (bc_row M 3 0 g) post := by
  intro n
  induction n with
  | zero =>
    intro q g h1 h0 h2 h0f h1f k
    have hl := hb.2
    refine wp_aload_n eX2_advance_16 rfl ?_
    refine gf_X2_22 eX2_advance_17 ?_
    rw [row_at, h2]
    refine wp_aload_n eX2_advance_20 rfl ?_
    refine gf_X2_15 eX2_advance_21 ?_
    rw [row_at, h1f]
    refine wp_icmp_ge eX2_advance_24 (fun c24 => ?_) (fun c24 => ?_)
    · simp only [lx_run] at k
      rw [show bc_u g 3 q = g by rw [← h2, bu_same]] at k
      exact k
    · omega
  | succ n ih =>
    intro q g h1 h0 h2 h0f h1f k
    have hl := hb.2
    refine wp_aload_n eX2_advance_16 rfl ?_
    refine gf_X2_22 eX2_advance_17 ?_
    rw [row_at, h2]
    refine wp_aload_n eX2_advance_20 rfl ?_
    refine gf_X2_15 eX2_advance_21 ?_
    rw [row_at, h1f]
    refine wp_icmp_ge eX2_advance_24 (fun c24 => ?_) (fun c24 => ?_)
    · omega
    · refine wp_aload_n eX2_advance_27 rfl ?_
      refine wp_aload_n eX2_advance_28 rfl ?_
      refine gf_X2_22 eX2_advance_29 ?_
      rw [row_at, h2]
      refine c_X2_126 eX2_advance_32 (ct_pByteAt (hb.row (by decide)) (by rw [row_at]; exact h0f) (by rw [row_at]; exact h1f) (x := q) (by omega) ?_)
      rw [if_pos (by omega)]
      have hbq := (hb.1 q (by omega) (by omega)).2
      refine c_X2_134 eX2_advance_35 (ct_pIsBlank (by omega) ?_)
      refine wp_if_eq eX2_advance_38 (fun c38 => ?_) (fun c38 => ?_) (by split <;> omega)
      · have h9 : ¬ lx_bl (b q) = true := by
          intro h9
          rw [if_pos h9] at c38
          exact absurd c38 (by decide)
        have hk9 : lx_run lx_bl b len (n + 1) q = q := by
          simp only [lx_run]
          rw [if_neg (fun z => h9 z.2)]
        rw [hk9] at k
        rw [show bc_u g 3 q = g by rw [← h2, bu_same]] at k
        exact k
      · have h9 : lx_bl (b q) = true := by
          apply Decidable.byContradiction
          intro h9
          rw [if_neg h9] at c38
          exact absurd rfl c38
        have hk9 : lx_run lx_bl b len (n + 1) q = lx_run lx_bl b len n (q + 1) := by
          simp only [lx_run]
          rw [if_pos ⟨by omega, h9⟩]
        rw [hk9] at k
        refine wp_aload_n eX2_advance_41 rfl ?_
        refine wp_dup eX2_advance_42 ?_
        refine gf_X2_22 eX2_advance_43 ?_
        rw [row_at, h2]
        refine wp_iconst eX2_advance_46 ?_
        refine wp_iadd eX2_advance_47 ?_
        refine pf_X2_22 eX2_advance_48 ?_
        refine wp_goto eX2_advance_51 ?_
        rw [up_row]
        exact ih (q + 1) (bc_u g 3 (q + 1)) (by omega) (by omega) (by rw [u_at]) (by rw [u_ne (by decide)]; exact h0f) (by rw [u_ne (by decide)]; exact h1f) (by rw [u_u]; exact k)
