theorem i01 {P : Prop} [Decidable P] : (if P then (1 : Int) else 0) = 0 ∨ (if P then (1 : Int) else 0) = 1 := by
  by_cases h : P
  · rw [if_pos h]; exact Or.inr rfl
  · rw [if_neg h]; exact Or.inl rfl
/-- the text in the model's buffer -/
def BT (M : bc_M) (b : Int → Int) (len : Int) : Prop := (∀ q, 0 ≤ q → q < len → M 38 0 q = b q ∧ 0 ≤ b q ∧ b q ≤ 255) ∧ 0 ≤ len ∧ len ≤ 500
def mkd (k : Int) : Int := if k = 0 then 0 else if k = 1 then 2 else if k = 2 then 3 else if k = 3 then 4 else 1
/-- the parser's state in the model's fields -/
def PG (g : Int → Int) (len : Int) (σ : bl_s) : Prop := g 12 = len ∧ g 17 = σ.1 ∧ g 14 = σ.2.1 ∧ g 13 = σ.2.2.1 ∧ g 15 = mkd σ.2.2.2.1 ∧ (σ.2.2.2.1 = 2 → g 16 = σ.2.2.2.2) ∧ g 18 = (if σ.1 = 0 then -1 else σ.2.1)
def NF (g g' : Int → Int) : Prop := ∀ f, f < 13 ∨ 18 < f → g' f = g f
theorem NF.tr {g g1 g2 : Int → Int} (h : NF g g1) (h2 : NF g1 g2) : NF g g2 := fun f hf => (h2 f hf).trans (h f hf)
theorem NF.u {g g1 : Int → Int} {f v : Int} (h : NF g g1) (hf : 13 ≤ f ∧ f ≤ 18) : NF g (bc_u g1 f v) := fun x hx => by rw [u_ne (by omega)]; exact h x hx
theorem NF.rf {g : Int → Int} : NF g g := fun _ _ => rfl
theorem BT.row {M : bc_M} {b g : Int → Int} {len : Int} {k : Nat} (h : BT M b len) (hk : k ≠ 38) : BT (bc_row M k 0 g) b len := by
  unfold BT at h ⊢
  rw [row_kne (fun e => hk e.symm)]
  exact h
theorem mkd_r {k : Int} (h : 0 ≤ k ∧ k ≤ 4) : (0 ≤ mkd k ∧ mkd k ≤ 4) ∧ (mkd k = 0 ↔ k = 0) ∧ (mkd k = 2 ↔ k = 1) ∧ (mkd k = 3 ↔ k = 2) ∧ (mkd k = 4 ↔ k = 3) := by
  unfold mkd
  rcases (show k = 0 ∨ k = 1 ∨ k = 2 ∨ k = 3 ∨ k = 4 by omega) with e | e | e | e | e <;> subst e <;> decide
theorem ct_byteAt {G : bc_G} {M : bc_M} {post : bc_R → bc_M → Prop} {x : Int} {b : Int → Int} {len : Int} (hb : BT M b len) (e12 : M 33 0 12 = len) (hx : 0 ≤ x ∧ x ≤ len) (k : post (.inr (some (vI (if x < len then b x else -1)))) M) : bc_Call G yX9_byteAt cX9_byteAt 2 (some .int) 1 0 [vR G 33 0, vI x] M post := by
  have hl := hb.2
  refine bc_enter (L := [some (vR G 33 0), some (vI x)]) (by decide) rfl rfl ?_
  refine wp_iload_n eX9_byteAt_0 rfl ?_
  refine wp_aload_n eX9_byteAt_1 rfl ?_
  refine gf_X9_92 eX9_byteAt_2 ?_
  rw [e12]
  refine wp_icmp_ge eX9_byteAt_5 (fun c5 => ?_) (fun c5 => ?_)
  · rw [if_neg (by omega)] at k
    refine wp_iconst eX9_byteAt_17 ?_
    refine wp_ireturn eX9_byteAt_18 ?_
    exact k
  · rw [if_pos (by omega)] at k
    refine wp_aload_n eX9_byteAt_8 rfl ?_
    refine gf_X9_22 eX9_byteAt_9 ?_
    refine wp_iload_n eX9_byteAt_12 rfl ?_
    refine al_38 eX9_byteAt_13 ?_
    rw [(hb.1 x (by omega) (by omega)).1]
    refine wp_goto eX9_byteAt_14 ?_
    refine wp_ireturn eX9_byteAt_18 ?_
    exact k
theorem ct_isLetterAt {G : bc_G} {M : bc_M} {post : bc_R → bc_M → Prop} {x : Int} {b : Int → Int} {len : Int} (hb : BT M b len) (e12 : M 33 0 12 = len) (hx : 0 ≤ x ∧ x ≤ len) (k : post (.inr (some (vI (if x < len ∧ lx_le (b x) = true then 1 else 0)))) M) : bc_Call G yX9_isLetterAt cX9_isLetterAt 2 (some .boolean) 2 0 [vR G 33 0, vI x] M post := by
  refine bc_enter (L := [some (vR G 33 0), some (vI x)]) (by decide) rfl rfl ?_
  refine wp_aload_n eX9_isLetterAt_0 rfl ?_
  refine wp_iload_n eX9_isLetterAt_1 rfl ?_
  refine c_X9_95 eX9_isLetterAt_2 (ct_byteAt hb e12 hx ?_)
  have hr : -1 ≤ (if x < len then b x else -1) ∧ (if x < len then b x else -1) ≤ 255 := by
    split
    · have := (hb.1 x hx.1 (by omega)).2; omega
    · omega
  refine wp_i2l eX9_isLetterAt_5 ?_
  refine wp_ldc2 (n := 97) eX9_isLetterAt_6 kc_X9_99 (by decide) ?_
  refine wp_ldc2 (n := 122) eX9_isLetterAt_9 kc_X9_101 (by decide) ?_
  refine c_X9_75 eX9_isLetterAt_12 (ct_mIsIn ?_)
  refine wp_zreturn eX9_isLetterAt_15 i01 ?_
  have e9 : (if 97 ≤ (if x < len then b x else -1) ∧ (if x < len then b x else -1) ≤ 122 then (1 : Int) else 0) = (if x < len ∧ lx_le (b x) = true then 1 else 0) := by
    by_cases h9 : x < len
    · rw [if_pos h9]
      by_cases h8 : 97 ≤ b x ∧ b x ≤ 122
      · rw [if_pos h8, if_pos ⟨h9, decide_eq_true h8⟩]
      · rw [if_neg h8, if_neg (fun q => h8 (decide_eq_true_iff.mp q.2))]
    · rw [if_neg h9, if_neg (by omega), if_neg (fun q => h9 q.1)]
  rw [e9]
  exact k
theorem ct_isDigitAt {G : bc_G} {M : bc_M} {post : bc_R → bc_M → Prop} {x : Int} {b : Int → Int} {len : Int} (hb : BT M b len) (e12 : M 33 0 12 = len) (hx : 0 ≤ x ∧ x ≤ len) (k : post (.inr (some (vI (if x < len ∧ lx_di (b x) = true then 1 else 0)))) M) : bc_Call G yX9_isDigitAt cX9_isDigitAt 2 (some .boolean) 2 0 [vR G 33 0, vI x] M post := by
  refine bc_enter (L := [some (vR G 33 0), some (vI x)]) (by decide) rfl rfl ?_
  refine wp_aload_n eX9_isDigitAt_0 rfl ?_
  refine wp_iload_n eX9_isDigitAt_1 rfl ?_
  refine c_X9_95 eX9_isDigitAt_2 (ct_byteAt hb e12 hx ?_)
  have hr : -1 ≤ (if x < len then b x else -1) ∧ (if x < len then b x else -1) ≤ 255 := by
    split
    · have := (hb.1 x hx.1 (by omega)).2; omega
    · omega
  refine wp_i2l eX9_isDigitAt_5 ?_
  refine wp_ldc2 (n := 48) eX9_isDigitAt_6 kc_X9_103 (by decide) ?_
  refine wp_ldc2 (n := 57) eX9_isDigitAt_9 kc_X9_105 (by decide) ?_
  refine c_X9_75 eX9_isDigitAt_12 (ct_mIsIn ?_)
  refine wp_zreturn eX9_isDigitAt_15 i01 ?_
  have e9 : (if 48 ≤ (if x < len then b x else -1) ∧ (if x < len then b x else -1) ≤ 57 then (1 : Int) else 0) = (if x < len ∧ lx_di (b x) = true then 1 else 0) := by
    by_cases h9 : x < len
    · rw [if_pos h9]
      by_cases h8 : 48 ≤ b x ∧ b x ≤ 57
      · rw [if_pos h8, if_pos ⟨h9, decide_eq_true h8⟩]
      · rw [if_neg h8, if_neg (fun q => h8 (decide_eq_true_iff.mp q.2))]
    · rw [if_neg h9, if_neg (by omega), if_neg (fun q => h9 q.1)]
  rw [e9]
  exact k
theorem ct_isFine {G : bc_G} {M : bc_M} {post : bc_R → bc_M → Prop} (hr : 0 ≤ M 33 0 17 ∧ M 33 0 17 ≤ 3) (k : post (.inr (some (vI (if M 33 0 17 = 0 then 1 else 0)))) M) : bc_Call G yX9_isFine cX9_isFine 1 (some .boolean) 1 0 [vR G 33 0] M post := by
  refine bc_enter (L := [some (vR G 33 0)]) (by decide) rfl rfl ?_
  refine wp_aload_n eX9_isFine_0 rfl ?_
  refine gf_X9_107 eX9_isFine_1 ?_
  refine wp_if_ne eX9_isFine_4 (fun c4 => ?_) (fun c4 => ?_)
  · rw [if_neg (by omega)] at k
    refine wp_iconst eX9_isFine_11 ?_
    refine wp_zreturn eX9_isFine_12 (by decide) ?_
    exact k
  · rw [if_pos (by omega)] at k
    refine wp_iconst eX9_isFine_7 ?_
    refine wp_goto eX9_isFine_8 ?_
    refine wp_zreturn eX9_isFine_12 (by decide) ?_
    exact k
theorem lp_nxB {G : bc_G} {M : bc_M} {post : bc_R → bc_M → Prop} {b : Int → Int} {len : Int} (hb : BT M b len) : ∀ (n : Nat) (q : Int) (g : Int → Int) (h1 : q + n = len) (h0 : 0 ≤ q) (h2 : g 13 = q) (h12 : g 12 = len) (k : bc_W G RX9 cX9_next 1 none 3 0 0 47 [some (vR G 33 0)] [] (bc_row M 33 0 (bc_u g 13 (lx_run lx_bl b len n q))) post), bc_W G RX9 cX9_next 1 none 3 0 0 8 [some (vR G 33 0)] [] (bc_row M 33 0 g) post := by
  intro n
  induction n with
  | zero =>
    intro q g h1 h0 h2 h12 k
    have hl := hb.2
    refine wp_aload_n eX9_next_8 rfl ?_
    refine wp_aload_n eX9_next_9 rfl ?_
    refine gf_X9_114 eX9_next_10 ?_
    rw [row_at, h2]
    refine c_X9_95 eX9_next_13 (ct_byteAt (hb.row (by decide)) (by rw [row_at]; exact h12) (x := q) (by omega) ?_)
    rw [if_neg (by omega)]
    refine wp_bipush eX9_next_16 ?_
    refine wp_icmp_eq eX9_next_18 (fun c18 => ?_) (fun c18 => ?_)
    · exact absurd c18 (by decide)
    · refine wp_aload_n eX9_next_21 rfl ?_
      refine wp_aload_n eX9_next_22 rfl ?_
      refine gf_X9_114 eX9_next_23 ?_
      rw [row_at, h2]
      refine c_X9_95 eX9_next_26 (ct_byteAt (hb.row (by decide)) (by rw [row_at]; exact h12) (x := q) (by omega) ?_)
      rw [if_neg (by omega)]
      refine wp_bipush eX9_next_29 ?_
      refine wp_icmp_ne eX9_next_31 (fun c31 => ?_) (fun c31 => ?_)
      · simp only [lx_run] at k
        rw [show bc_u g 13 q = g by rw [← h2, bu_same]] at k
        exact k
      · exact absurd (by decide) c31
  | succ n ih =>
    intro q g h1 h0 h2 h12 k
    have hl := hb.2
    refine wp_aload_n eX9_next_8 rfl ?_
    refine wp_aload_n eX9_next_9 rfl ?_
    refine gf_X9_114 eX9_next_10 ?_
    rw [row_at, h2]
    refine c_X9_95 eX9_next_13 (ct_byteAt (hb.row (by decide)) (by rw [row_at]; exact h12) (x := q) (by omega) ?_)
    rw [if_pos (by omega)]
    have hbq := (hb.1 q (by omega) (by omega)).2
    refine wp_bipush eX9_next_16 ?_
    refine wp_icmp_eq eX9_next_18 (fun c18 => ?_) (fun c18 => ?_)
    · have hk9 : lx_run lx_bl b len (n + 1) q = lx_run lx_bl b len n (q + 1) := by
        simp only [lx_run]
        rw [if_pos ⟨by omega, decide_eq_true (by omega)⟩]
      rw [hk9] at k
      refine wp_aload_n eX9_next_34 rfl ?_
      refine wp_dup eX9_next_35 ?_
      refine gf_X9_114 eX9_next_36 ?_
      rw [row_at, h2]
      refine wp_iconst eX9_next_39 ?_
      refine wp_iadd eX9_next_40 ?_
      refine pf_X9_114 eX9_next_41 ?_
      refine wp_goto eX9_next_44 ?_
      rw [up_row]
      exact ih (q + 1) (bc_u g 13 (q + 1)) (by omega) (by omega) (by rw [u_at]) (by rw [u_ne (by decide)]; exact h12) (by rw [u_u]; exact k)
    · refine wp_aload_n eX9_next_21 rfl ?_
      refine wp_aload_n eX9_next_22 rfl ?_
      refine gf_X9_114 eX9_next_23 ?_
      rw [row_at, h2]
      refine c_X9_95 eX9_next_26 (ct_byteAt (hb.row (by decide)) (by rw [row_at]; exact h12) (x := q) (by omega) ?_)
      rw [if_pos (by omega)]
      refine wp_bipush eX9_next_29 ?_
      refine wp_icmp_ne eX9_next_31 (fun c31 => ?_) (fun c31 => ?_)
      · have hk9 : lx_run lx_bl b len (n + 1) q = q := by
          simp only [lx_run]
          rw [if_neg (fun z => by have := decide_eq_true_iff.mp z.2; omega)]
        rw [hk9, show bc_u g 13 q = g by rw [← h2, bu_same]] at k
        exact k
      · have hk9 : lx_run lx_bl b len (n + 1) q = lx_run lx_bl b len n (q + 1) := by
          simp only [lx_run]
          rw [if_pos ⟨by omega, decide_eq_true (by omega)⟩]
        rw [hk9] at k
        refine wp_aload_n eX9_next_34 rfl ?_
        refine wp_dup eX9_next_35 ?_
        refine gf_X9_114 eX9_next_36 ?_
        rw [row_at, h2]
        refine wp_iconst eX9_next_39 ?_
        refine wp_iadd eX9_next_40 ?_
        refine pf_X9_114 eX9_next_41 ?_
        refine wp_goto eX9_next_44 ?_
        rw [up_row]
        exact ih (q + 1) (bc_u g 13 (q + 1)) (by omega) (by omega) (by rw [u_at]) (by rw [u_ne (by decide)]; exact h12) (by rw [u_u]; exact k)
theorem lp_nxL {G : bc_G} {M : bc_M} {post : bc_R → bc_M → Prop} {b : Int → Int} {len : Int} (hb : BT M b len) : ∀ (n : Nat) (q : Int) (g : Int → Int) (h1 : q + n = len) (h0 : 0 ≤ q) (h2 : g 13 = q) (h12 : g 12 = len) (k : bc_W G RX9 cX9_next 1 none 3 0 0 109 [some (vR G 33 0)] [] (bc_row M 33 0 (bc_u g 13 (lx_run lx_le b len n q))) post), bc_W G RX9 cX9_next 1 none 3 0 0 85 [some (vR G 33 0)] [] (bc_row M 33 0 g) post := by
  intro n
  induction n with
  | zero =>
    intro q g h1 h0 h2 h12 k
    have hl := hb.2
    refine wp_aload_n eX9_next_85 rfl ?_
    refine wp_aload_n eX9_next_86 rfl ?_
    refine gf_X9_114 eX9_next_87 ?_
    rw [row_at, h2]
    refine c_X9_123 eX9_next_90 (ct_isLetterAt (hb.row (by decide)) (by rw [row_at]; exact h12) (x := q) (by omega) ?_)
    refine wp_if_eq eX9_next_93 (fun c93 => ?_) (fun c93 => ?_) (by split <;> omega)
    · simp only [lx_run] at k
      rw [show bc_u g 13 q = g by rw [← h2, bu_same]] at k
      exact k
    · rw [if_neg (fun z => by omega)] at c93
      exact absurd rfl c93
  | succ n ih =>
    intro q g h1 h0 h2 h12 k
    have hl := hb.2
    refine wp_aload_n eX9_next_85 rfl ?_
    refine wp_aload_n eX9_next_86 rfl ?_
    refine gf_X9_114 eX9_next_87 ?_
    rw [row_at, h2]
    refine c_X9_123 eX9_next_90 (ct_isLetterAt (hb.row (by decide)) (by rw [row_at]; exact h12) (x := q) (by omega) ?_)
    refine wp_if_eq eX9_next_93 (fun c93 => ?_) (fun c93 => ?_) (by split <;> omega)
    · have h9 : ¬ (q < len ∧ lx_le (b q) = true) := by
        intro h9
        rw [if_pos h9] at c93
        exact absurd c93 (by decide)
      have hk9 : lx_run lx_le b len (n + 1) q = q := by
        simp only [lx_run]
        rw [if_neg h9]
      rw [hk9, show bc_u g 13 q = g by rw [← h2, bu_same]] at k
      exact k
    · have h9 : q < len ∧ lx_le (b q) = true := by
        apply Decidable.byContradiction
        intro h9
        rw [if_neg h9] at c93
        exact absurd rfl c93
      have hk9 : lx_run lx_le b len (n + 1) q = lx_run lx_le b len n (q + 1) := by
        simp only [lx_run]
        rw [if_pos h9]
      rw [hk9] at k
      refine wp_aload_n eX9_next_96 rfl ?_
      refine wp_dup eX9_next_97 ?_
      refine gf_X9_114 eX9_next_98 ?_
      rw [row_at, h2]
      refine wp_iconst eX9_next_101 ?_
      refine wp_iadd eX9_next_102 ?_
      refine pf_X9_114 eX9_next_103 ?_
      refine wp_goto eX9_next_106 ?_
      rw [up_row]
      exact ih (q + 1) (bc_u g 13 (q + 1)) (by omega) (by omega) (by rw [u_at]) (by rw [u_ne (by decide)]; exact h12) (by rw [u_u]; exact k)
theorem u_sw {g : Int → Int} {f f' v w : Int} (h : f ≠ f') : bc_u (bc_u g f v) f' w = bc_u (bc_u g f' w) f v := by
  funext x
  by_cases a : x = f
  · rw [a, u_ne h, u_at, u_at]
  · by_cases b : x = f'
    · rw [b, u_at, u_ne (fun q => h q.symm), u_at]
    · rw [u_ne b, u_ne a, u_ne a, u_ne b]
theorem lp_nxD {G : bc_G} {M : bc_M} {post : bc_R → bc_M → Prop} {b : Int → Int} {len : Int} (hb : BT M b len) {s : Int} (hs0 : 0 ≤ s) : ∀ (n : Nat) (q : Int) (g : Int → Int) (v : Int) (h1 : q + n = len) (h0 : s ≤ q) (h2 : g 13 = q) (h12 : g 12 = len) (h14 : g 14 = s) (h16 : g 16 = v) (hv9 : 0 ≤ s) (k : bc_W G RX9 cX9_next 1 none 3 0 0 193 [some (vR G 33 0)] [] (bc_row M 33 0 (bc_u (bc_u g 13 (lx_run lx_di b len n q)) 16 (lx_num b len s n q v))) post), bc_W G RX9 cX9_next 1 none 3 0 0 133 [some (vR G 33 0)] [] (bc_row M 33 0 g) post := by
  intro n
  induction n with
  | zero =>
    intro q g v h1 h0 h2 h12 h14 h16 hv9 k
    have hl := hb.2
    refine wp_aload_n eX9_next_133 rfl ?_
    refine wp_aload_n eX9_next_134 rfl ?_
    refine gf_X9_114 eX9_next_135 ?_
    rw [row_at, h2]
    refine c_X9_127 eX9_next_138 (ct_isDigitAt (hb.row (by decide)) (by rw [row_at]; exact h12) (x := q) (by omega) ?_)
    refine wp_if_eq eX9_next_141 (fun c141 => ?_) (fun c141 => ?_) (by split <;> omega)
    · simp only [lx_run, lx_num] at k
      have e9 : bc_u (bc_u g 13 q) 16 v = g := by
        rw [show bc_u g 13 q = g by rw [← h2, bu_same], ← h16, bu_same]
      rw [e9] at k
      exact k
    · rw [if_neg (fun z => by omega)] at c141
      exact absurd rfl c141
  | succ n ih =>
    intro q g v h1 h0 h2 h12 h14 h16 hv9 k
    have hl := hb.2
    refine wp_aload_n eX9_next_133 rfl ?_
    refine wp_aload_n eX9_next_134 rfl ?_
    refine gf_X9_114 eX9_next_135 ?_
    rw [row_at, h2]
    refine c_X9_127 eX9_next_138 (ct_isDigitAt (hb.row (by decide)) (by rw [row_at]; exact h12) (x := q) (by omega) ?_)
    refine wp_if_eq eX9_next_141 (fun c141 => ?_) (fun c141 => ?_) (by split <;> omega)
    · have h9 : ¬ (q < len ∧ lx_di (b q) = true) := by
        intro h9
        rw [if_pos h9] at c141
        exact absurd c141 (by decide)
      have hk9 : lx_run lx_di b len (n + 1) q = q := by
        simp only [lx_run]
        rw [if_neg h9]
      have hk8 : lx_num b len s (n + 1) q v = v := by
        simp only [lx_num]
        rw [if_neg h9]
      rw [hk9, hk8] at k
      have e9 : bc_u (bc_u g 13 q) 16 v = g := by
        rw [show bc_u g 13 q = g by rw [← h2, bu_same], ← h16, bu_same]
      rw [e9] at k
      exact k
    · have h9 : q < len ∧ lx_di (b q) = true := by
        apply Decidable.byContradiction
        intro h9
        rw [if_neg h9] at c141
        exact absurd rfl c141
      have hk9 : lx_run lx_di b len (n + 1) q = lx_run lx_di b len n (q + 1) := by
        simp only [lx_run]
        rw [if_pos h9]
      rw [hk9] at k
      refine wp_aload_n eX9_next_144 rfl ?_
      refine gf_X9_114 eX9_next_145 ?_
      rw [row_at, h2]
      refine wp_aload_n eX9_next_148 rfl ?_
      refine gf_X9_117 eX9_next_149 ?_
      rw [row_at, h14]
      refine wp_isub eX9_next_152 ?_
      refine wp_iconst eX9_next_153 ?_
      refine wp_icmp_ge eX9_next_154 (fun c154 => ?_) (fun c154 => ?_)
      · have hk8 : lx_num b len s (n + 1) q v = lx_num b len s n (q + 1) (v) := by
          simp only [lx_num]
          rw [if_pos h9, if_neg (by omega)]
        rw [hk8] at k
        refine wp_aload_n eX9_next_180 rfl ?_
        refine wp_dup eX9_next_181 ?_
        refine gf_X9_114 eX9_next_182 ?_
        rw [row_at, h2]
        refine wp_iconst eX9_next_185 ?_
        refine wp_iadd eX9_next_186 ?_
        refine pf_X9_114 eX9_next_187 ?_
        refine wp_goto eX9_next_190 ?_
        rw [up_row]
        exact ih (q + 1) (bc_u g 13 (q + 1)) v (by omega) (by omega) (by rw [u_at]) (by rw [u_ne (by decide)]; exact h12) (by rw [u_ne (by decide)]; exact h14) (by rw [u_ne (by decide)]; exact h16) (by omega) (by rw [u_u]; exact k)
      · have hk8 : lx_num b len s (n + 1) q v = lx_num b len s n (q + 1) (10 * v + b q - 48) := by
          simp only [lx_num]
          rw [if_pos h9, if_pos (by omega)]
        rw [hk8] at k
        refine wp_aload_n eX9_next_157 rfl ?_
        refine wp_bipush eX9_next_158 ?_
        refine wp_aload_n eX9_next_160 rfl ?_
        refine gf_X9_130 eX9_next_161 ?_
        rw [row_at, h16]
        refine wp_imul eX9_next_164 ?_
        refine wp_aload_n eX9_next_165 rfl ?_
        refine wp_aload_n eX9_next_166 rfl ?_
        refine gf_X9_114 eX9_next_167 ?_
        rw [row_at, h2]
        refine c_X9_95 eX9_next_170 (ct_byteAt (hb.row (by decide)) (by rw [row_at]; exact h12) (x := q) (by omega) ?_)
        rw [if_pos (by omega)]
        refine wp_iadd eX9_next_173 ?_
        refine wp_bipush eX9_next_174 ?_
        refine wp_isub eX9_next_176 ?_
        refine pf_X9_130 eX9_next_177 ?_
        refine wp_aload_n eX9_next_180 rfl ?_
        refine wp_dup eX9_next_181 ?_
        refine gf_X9_114 eX9_next_182 ?_
        refine wp_iconst eX9_next_185 ?_
        refine wp_iadd eX9_next_186 ?_
        refine pf_X9_114 eX9_next_187 ?_
        refine wp_goto eX9_next_190 ?_
        rw [up_row, up_row, row_at, u_ne (by decide), h2]
        refine ih (q + 1) (bc_u (bc_u g 16 (10 * v + b q - 48)) 13 (q + 1)) (10 * v + b q - 48) (by omega) (by omega) (by rw [u_at]) (by rw [u_ne (by decide), u_ne (by decide)]; exact h12) (by rw [u_ne (by decide), u_ne (by decide)]; exact h14) (by rw [u_ne (by decide), u_at]) (by omega) ?_
        rw [u_u, u_sw (by decide), u_u, u_sw (f := 16) (by decide)]
        exact k
