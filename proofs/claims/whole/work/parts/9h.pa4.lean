theorem p_bg_k {b : Int → Int} {len : Int} {σ : bl_s} : p_bg b len 0 0 1 1 σ = p_k b len 0 σ := by
  unfold p_bg p_k
  by_cases h : p_w b 0 σ = true
  · rw [if_pos h, if_pos (by decide), if_pos h]
  · rw [if_neg h, if_neg (by decide), if_neg h, p_a_e (p_f_ne (by decide))]
def DKC (M X : bc_M) (z c : Int) (D : Int → Int) : Prop := Fr (fun k j => (k = 6 ∨ k = 7) ∧ j = z) M X ∧ X 6 z 2 = c ∧ (∀ f, f ≠ 2 → X 6 z f = M 6 z f) ∧ ∀ x, 0 ≤ x → x < c → X 7 z x = D (2 + x)
def ITC (M X : bc_M) (z c : Int) (D : Int → Int) : Prop := Fr (fun k j => (k = 6 ∨ k = 8 ∨ k = 9 ∨ k = 10) ∧ j = z) M X ∧ X 6 z 3 = c ∧ (∀ f, f ≠ 3 → X 6 z f = M 6 z f) ∧ (∀ x, 0 ≤ x → x < c → X 8 z x = D (6 + 3 * x) ∧ X 9 z x = D (6 + 3 * x + 1) ∧ X 10 z x = D (6 + 3 * x + 2)) ∧ ∀ x, c ≤ x → X 9 z x = M 9 z x
def CLC (M X : bc_M) (z c e : Int) (D : Int → Int) : Prop := Fr (fun k j => k = 3 ∨ (k = 5 ∧ j = z) ∨ ((k = 12 ∨ k = 13 ∨ k = 14) ∧ 4 * z ≤ j ∧ j < 4 * z + 4)) M X ∧ X 5 z 1 = c ∧ ∀ x, 0 ≤ x → x < c → X 12 (4 * z + x) 0 = D (54 + 2 * x) ∧ (e = 0 → X 12 (4 * z + x) 1 = D (54 + 2 * x + 1)) ∧ (∀ f, 2 ≤ f → f < 9 → X 12 (4 * z + x) f = 0) ∧ ∀ q, 0 ≤ q → q < 16 → X 13 (4 * z + x) q = 0 ∧ X 14 (4 * z + x) q = 0
theorem BC.up {M : bc_M} {b : Int → Int} {len : Int} {k : Nat} {j f v : Int} (h : BC M b len) (hk : k ≠ 2) : BC (bc_up M k j f v) b len := by
  unfold BC at h ⊢
  rw [up_kne (fun e => hk e.symm)]
  exact h
theorem BC.fr {M M' : bc_M} {b : Int → Int} {len : Int} (h : BC M b len) (e : M' 2 0 = M 2 0) : BC M' b len := by
  unfold BC at h ⊢
  rw [e]
  exact h
theorem ct_pIndex {G : bc_G} {M : bc_M} {post : bc_R → bc_M → Prop} {b : Int → Int} {len : Int} (hb : BC M b len) {σ : bl_s} (hP : PC (M 3 0) len σ) (hσ : SG len σ) {z : Int} (hz : 0 ≤ z ∧ z < 12) (k : ∀ g' : Int → Int, PC g' len (p_ix b len σ) → post (.inr none) (bc_row (bc_up (bc_up M 6 z 0 (p_k b len 0 σ).2.2.2.2) 6 z 1 (p_n b len 0 8 (p_k b len 0 σ)).2.2.2.2) 3 0 g')) : bc_Call G yX2_readIndex cX2_readIndex 2 none 8 0 [vR G 3 0, vR G 6 z] M post := by
  refine bc_enter (L := [some (vR G 3 0), some (vR G 6 z)]) (by decide) rfl rfl ?_
  refine wp_aload_n eX2_readIndex_0 rfl ?_
  refine wp_ldcS (ti := 0) (tx := "index") eX2_readIndex_1 (by decide +kernel) ?_
  refine wp_iconst eX2_readIndex_3 ?_
  refine wp_iconst eX2_readIndex_4 ?_
  refine wp_iconst eX2_readIndex_5 ?_
  refine c_X2_72 eX2_readIndex_6 (ct_pBegins hb hP hσ (ti := 0) (n := 0) (lo := 1) (mx := 1) (by decide) (by decide) (by decide) (by decide) (fun g1 p1 => ?_))
  rw [p_bg_k] at p1
  have s1 : SG len (p_k b len 0 σ) := hσ.k
  refine wp_pop eX2_readIndex_9 ?_
  refine wp_aload_n eX2_readIndex_10 rfl ?_
  refine wp_aload_n eX2_readIndex_11 rfl ?_
  refine wp_iconst eX2_readIndex_12 ?_
  refine wp_bipush eX2_readIndex_13 ?_
  refine c_X2_76 eX2_readIndex_15 (ct_pNum (lo := 0) (hi := 8) (by decide) (by decide) (hb.row (by decide)) (by rw [row_at]; exact p1) s1 (fun g2 p2 => ?_))
  rw [row_row]
  refine pf_X2_79 eX2_readIndex_18 ?_
  rw [up_row_c (by decide)]
  refine wp_aload_n eX2_readIndex_21 rfl ?_
  refine wp_aload_n eX2_readIndex_22 rfl ?_
  refine wp_iconst eX2_readIndex_23 ?_
  refine wp_iconst eX2_readIndex_24 ?_
  refine c_X2_76 eX2_readIndex_25 (ct_pNum (lo := 1) (hi := 4) (by decide) (by decide) ((hb.up (by decide)).row (by decide)) (by rw [row_at]; exact p2) s1.n (fun g3 p3 => ?_))
  rw [row_row]
  refine pf_X2_84 eX2_readIndex_28 ?_
  rw [up_row_c (by decide)]
  refine wp_aload_n eX2_readIndex_31 rfl ?_
  refine c_X2_85 eX2_readIndex_32 (ct_pSemi (((hb.up (by decide)).up (by decide)).row (by decide)) (by rw [row_at]; exact p3) s1.n.n (fun g4 p4 => ?_))
  rw [row_row]
  refine wp_return eX2_readIndex_35 ?_
  exact k g4 p4
set_option maxHeartbeats 1000000 in
theorem lp_pDisks {G : bc_G} {M : bc_M} {post : bc_R → bc_M → Prop} {b : Int → Int} {len : Int} (hb : BC M b len) {z : Int} (hz : 0 ≤ z ∧ z < 12) : ∀ (n : Nat) (c : Int) (σ : bl_s) (g : Int → Int) (X : bc_M) (Dd : Int → Int) (y : Option Value) (h1 : c + n = 5) (h2 : 0 ≤ c ∧ c ≤ 4) (hX : DKC M X z c Dd) (hP : PC g len σ) (hσ : SG len σ) (k : ∀ (X' : bc_M) (g' : Int → Int), DKC M X' z (dkL b len n c σ Dd).2.1 (dkL b len n c σ Dd).2.2 → PC g' len (dkL b len n c σ Dd).1 → post (.inr none) (bc_row X' 3 0 g')), bc_W G RX2 cX2_readDisks 4 none 8 0 0 2 [some (vR G 3 0), some (vR G 6 z), some (vI c), y] [] (bc_row X 3 0 g) post := by
  intro n
  induction n with
  | zero =>
    intro c σ g X Dd y h1 h2 hX hP hσ k
    have hl := hb.2
    have hbX : BC X b len := hb.fr (hX.1 2 0 (by omega))
    refine wp_iload_n eX2_readDisks_2 rfl ?_
    refine wp_iconst eX2_readDisks_3 ?_
    refine wp_icmp_gt eX2_readDisks_4 (fun c4 => ?_) (fun c4 => ?_)
    · omega
    · omega
  | succ n ih =>
    intro c σ g X Dd y h1 h2 hX hP hσ k
    have hl := hb.2
    have hbX : BC X b len := hb.fr (hX.1 2 0 (by omega))
    refine wp_iload_n eX2_readDisks_2 rfl ?_
    refine wp_iconst eX2_readDisks_3 ?_
    refine wp_icmp_gt eX2_readDisks_4 (fun c4 => ?_) (fun c4 => ?_)
    · omega
    · refine wp_aload_n eX2_readDisks_7 rfl ?_
      refine wp_ldcS (ti := 1) (tx := "disk") eX2_readDisks_8 (by decide +kernel) ?_
      refine wp_iload_n eX2_readDisks_10 rfl ?_
      refine wp_iconst eX2_readDisks_11 ?_
      refine wp_iconst eX2_readDisks_12 ?_
      refine c_X2_72 eX2_readDisks_13 (ct_pBegins (hbX.row (by decide)) (by rw [row_at]; exact hP) hσ (ti := 1) (n := c) (lo := 1) (mx := 4) (by decide) (by omega) (by decide) (by decide) (fun g1 p1 => ?_))
      rw [row_row]
      refine wp_if_ne eX2_readDisks_16 (fun c16 => ?_) (fun c16 => ?_) (by split <;> omega)
      · have hw : p_w b 1 σ = true ∧ c < 4 := by
          apply Decidable.byContradiction
          intro h9
          rw [if_neg h9] at c16
          exact absurd rfl c16
        rw [show p_bg b len 1 c 1 4 σ = p_a b len σ by unfold p_bg; rw [if_pos hw.1, if_pos hw.2]] at p1
        have s1 : SG len (p_a b len σ) := hσ.a
        refine wp_aload_n eX2_readDisks_20 rfl ?_
        refine wp_iconst eX2_readDisks_21 ?_
        refine wp_bipush eX2_readDisks_22 ?_
        refine c_X2_76 eX2_readDisks_24 (ct_pNum (lo := 1) (hi := 6) (by decide) (by decide) (hbX.row (by decide)) (by rw [row_at]; exact p1) s1 (fun g2 p2 => ?_))
        rw [row_row]
        refine ist_3 eX2_readDisks_27 ?_
        refine wp_aload_n eX2_readDisks_28 rfl ?_
        refine c_X2_85 eX2_readDisks_29 (ct_pSemi (hbX.row (by decide)) (by rw [row_at]; exact p2) s1.n (fun g3 p3 => ?_))
        rw [row_row]
        refine wp_aload_n eX2_readDisks_32 rfl ?_
        refine wp_iload_n eX2_readDisks_33 rfl ?_
        refine c_X2_90 eX2_readDisks_34 (ct_addDisk (by omega) (by rw [row_kne (by decide), hX.2.1]; omega) ?_)
        rw [row_kne (by decide), hX.2.1, up_row_c (by decide), up_row_c (by decide)]
        refine inc_2 eX2_readDisks_37 ?_
        refine wp_goto eX2_readDisks_40 ?_
        have hk9 : (dkL b len (n + 1) c σ Dd) = (dkL b len n (c + 1) (p_s b len (p_n b len 1 6 (p_a b len σ))) (bc_u Dd (2 + c) (p_a b len σ).2.2.2.2)) := by
          simp only [dkL]
          rw [if_pos hw.1, if_neg (by omega)]
        rw [hk9] at k
        refine ih (c + 1) _ g3 _ (bc_u Dd (2 + c) (p_a b len σ).2.2.2.2) _ (by omega) (by omega) ⟨Fr.tr hX.1 (Fr.tr (Fr.up ⟨by omega, rfl⟩) (Fr.up ⟨by omega, rfl⟩)), by rw [up_v, if_pos rfl], fun f hf => ?_, fun x a b9 => ?_⟩ p3 s1.n.s k
        · rw [up_v, if_neg hf, up_kne (by decide)]; exact hX.2.2.1 f hf
        · rw [up_kne (by decide), up_v]
          by_cases hx : x = c
          · rw [if_pos hx, hx, u_at]
          · rw [if_neg hx, u_ne (by omega)]; exact hX.2.2.2 x a (by omega)
      · have hw : ¬ (p_w b 1 σ = true ∧ c < 4) := by
          intro h9
          rw [if_pos h9] at c16
          exact c16 (by decide)
        have hk9 : (dkL b len (n + 1) c σ Dd) = (p_bg b len 1 c 1 4 σ, c, Dd) := by
          simp only [dkL]
          unfold p_bg
          by_cases h8 : p_w b 1 σ = true
          · have h6 : ¬ c < 4 := fun q => hw ⟨h8, q⟩
            rw [if_pos h8, if_pos h8, if_pos (by omega), if_neg (by omega)]
          · rw [if_neg h8, if_neg h8]
            by_cases h7 : c = 0
            · rw [if_pos h7, if_neg (by omega)]
            · rw [if_neg h7, if_pos (by omega)]
        rw [hk9] at k
        refine wp_return eX2_readDisks_19 ?_
        exact k X g1 hX p1
theorem ct_pDisks {G : bc_G} {M : bc_M} {post : bc_R → bc_M → Prop} {b : Int → Int} {len : Int} (hb : BC M b len) {σ : bl_s} (hP : PC (M 3 0) len σ) (hσ : SG len σ) {z : Int} {Dd : Int → Int} (hz : 0 ≤ z ∧ z < 12) (h0 : M 6 z 2 = 0) (k : ∀ (X' : bc_M) (g' : Int → Int), DKC M X' z (dkL b len 5 0 σ Dd).2.1 (dkL b len 5 0 σ Dd).2.2 → PC g' len (dkL b len 5 0 σ Dd).1 → post (.inr none) (bc_row X' 3 0 g')) : bc_Call G yX2_readDisks cX2_readDisks 4 none 8 0 [vR G 3 0, vR G 6 z] M post := by
  refine bc_enter (L := [some (vR G 3 0), some (vR G 6 z), none, none]) (by decide) rfl rfl ?_
  refine wp_iconst eX2_readDisks_0 ?_
  refine ist_2 eX2_readDisks_1 ?_
  rw [show M = bc_row M 3 0 (M 3 0) from row_self.symm]
  exact lp_pDisks hb hz 5 0 σ (M 3 0) M Dd none (by omega) (by omega) ⟨Fr.rf, h0, fun _ _ => rfl, fun x a b9 => by omega⟩ hP hσ k
set_option maxHeartbeats 1000000 in
theorem lp_pItems {G : bc_G} {M : bc_M} {post : bc_R → bc_M → Prop} {b : Int → Int} {len : Int} (hb : BC M b len) {z nd : Int} (hz : 0 ≤ z ∧ z < 12) (hnd : 0 ≤ nd ∧ nd ≤ 4) (e20 : M 6 z 2 = nd) : ∀ (n : Nat) (c : Int) (σ : bl_s) (g : Int → Int) (X : bc_M) (Dd : Int → Int) (y3 y4 y5 : Option Value) (h1 : c + n = 17) (h2 : 0 ≤ c ∧ c ≤ 16) (hX : ITC M X z c Dd) (hP : PC g len σ) (hσ : SG len σ) (k : ∀ (X' : bc_M) (g' : Int → Int), ITC M X' z (itL b len nd n c σ Dd).2.1 (itL b len nd n c σ Dd).2.2 → PC g' len (itL b len nd n c σ Dd).1 → post (.inr none) (bc_row X' 3 0 g')), bc_W G RX2 cX2_readItems 6 none 8 0 0 2 [some (vR G 3 0), some (vR G 6 z), some (vI c), y3, y4, y5] [] (bc_row X 3 0 g) post := by
  intro n
  induction n with
  | zero =>
    intro c σ g X Dd y3 y4 y5 h1 h2 hX hP hσ k
    have hl := hb.2
    have hbX : BC X b len := hb.fr (hX.1 2 0 (by omega))
    have e2 : X 6 z 2 = nd := by rw [hX.2.2.1 2 (by decide)]; exact e20
    refine wp_iload_n eX2_readItems_2 rfl ?_
    refine wp_bipush eX2_readItems_3 ?_
    refine wp_icmp_gt eX2_readItems_5 (fun c5 => ?_) (fun c5 => ?_)
    · omega
    · omega
  | succ n ih =>
    intro c σ g X Dd y3 y4 y5 h1 h2 hX hP hσ k
    have hl := hb.2
    have hbX : BC X b len := hb.fr (hX.1 2 0 (by omega))
    have e2 : X 6 z 2 = nd := by rw [hX.2.2.1 2 (by decide)]; exact e20
    refine wp_iload_n eX2_readItems_2 rfl ?_
    refine wp_bipush eX2_readItems_3 ?_
    refine wp_icmp_gt eX2_readItems_5 (fun c5 => ?_) (fun c5 => ?_)
    · omega
    · refine wp_aload_n eX2_readItems_8 rfl ?_
      refine wp_ldcS (ti := 2) (tx := "item") eX2_readItems_9 (by decide +kernel) ?_
      refine wp_iload_n eX2_readItems_11 rfl ?_
      refine wp_iconst eX2_readItems_12 ?_
      refine wp_bipush eX2_readItems_13 ?_
      refine c_X2_72 eX2_readItems_15 (ct_pBegins (hbX.row (by decide)) (by rw [row_at]; exact hP) hσ (ti := 2) (n := c) (lo := 1) (mx := 16) (by decide) (by omega) (by decide) (by decide) (fun g1 p1 => ?_))
      rw [row_row]
      refine wp_if_ne eX2_readItems_18 (fun c18 => ?_) (fun c18 => ?_) (by split <;> omega)
      · have hw : p_w b 2 σ = true ∧ c < 16 := by
          apply Decidable.byContradiction
          intro h9
          rw [if_neg h9] at c18
          exact absurd rfl c18
        rw [show p_bg b len 2 c 1 16 σ = p_a b len σ by unfold p_bg; rw [if_pos hw.1, if_pos hw.2]] at p1
        have s1 : SG len (p_a b len σ) := hσ.a
        refine wp_aload_n eX2_readItems_22 rfl ?_
        refine wp_iconst eX2_readItems_23 ?_
        refine wp_bipush eX2_readItems_24 ?_
        refine c_X2_76 eX2_readItems_26 (ct_pNum (lo := 0) (hi := 99) (by decide) (by decide) (hbX.row (by decide)) (by rw [row_at]; exact p1) s1 (fun g2 p2 => ?_))
        rw [row_row]
        refine ist_3 eX2_readItems_29 ?_
        refine wp_aload_n eX2_readItems_30 rfl ?_
        refine wp_iconst eX2_readItems_31 ?_
        refine wp_aload_n eX2_readItems_32 rfl ?_
        refine gf_X2_95 eX2_readItems_33 ?_
        rw [row_kne (by decide), e2]
        refine wp_iconst eX2_readItems_36 ?_
        refine wp_isub eX2_readItems_37 ?_
        refine c_X2_76 eX2_readItems_38 (ct_pNum (lo := 0) (hi := nd - 1) (by decide) (by omega) (hbX.row (by decide)) (by rw [row_at]; exact p2) s1.n (fun g3 p3 => ?_))
        rw [row_row]
        refine ist_4 eX2_readItems_41 ?_
        refine wp_aload_n eX2_readItems_43 rfl ?_
        refine wp_iconst eX2_readItems_44 ?_
        refine wp_sipush eX2_readItems_45 ?_
        refine c_X2_76 eX2_readItems_48 (ct_pNum (lo := 0) (hi := 999) (by decide) (by decide) (hbX.row (by decide)) (by rw [row_at]; exact p3) s1.n.n (fun g4 p4 => ?_))
        rw [row_row]
        refine ist_5 eX2_readItems_51 ?_
        refine wp_aload_n eX2_readItems_53 rfl ?_
        refine c_X2_85 eX2_readItems_54 (ct_pSemi (hbX.row (by decide)) (by rw [row_at]; exact p4) s1.n.n.n (fun g5 p5 => ?_))
        rw [row_row]
        refine wp_aload_n eX2_readItems_57 rfl ?_
        refine wp_iload_n eX2_readItems_58 rfl ?_
        refine wp_iload eX2_readItems_59 rfl ?_
        refine wp_iload eX2_readItems_61 rfl ?_
        refine c_X2_98 eX2_readItems_63 (ct_addItem (by omega) (by rw [row_kne (by decide), hX.2.1]; omega) ?_)
        rw [row_kne (by decide), hX.2.1, up_row_c (by decide), up_row_c (by decide), up_row_c (by decide), up_row_c (by decide)]
        refine inc_2 eX2_readItems_66 ?_
        refine wp_goto eX2_readItems_69 ?_
        have hk9 : (itL b len nd (n + 1) c σ Dd) = (itL b len nd n (c + 1) (p_s b len (p_n b len 0 999 (p_n b len 0 (nd - 1) (p_n b len 0 99 (p_a b len σ))))) (bc_u (bc_u (bc_u Dd (6 + 3 * c) (p_a b len σ).2.2.2.2) (6 + 3 * c + 1) (p_n b len 0 99 (p_a b len σ)).2.2.2.2) (6 + 3 * c + 2) (p_n b len 0 (nd - 1) (p_n b len 0 99 (p_a b len σ))).2.2.2.2)) := by
          simp only [itL]
          rw [if_pos hw.1, if_neg (by omega)]
        rw [hk9] at k
        refine ih (c + 1) _ g5 _ (bc_u (bc_u (bc_u Dd (6 + 3 * c) (p_a b len σ).2.2.2.2) (6 + 3 * c + 1) (p_n b len 0 99 (p_a b len σ)).2.2.2.2) (6 + 3 * c + 2) (p_n b len 0 (nd - 1) (p_n b len 0 99 (p_a b len σ))).2.2.2.2) _ _ _ (by omega) (by omega) ⟨Fr.tr hX.1 (Fr.tr (Fr.tr (Fr.tr (Fr.up ⟨by omega, rfl⟩) (Fr.up ⟨by omega, rfl⟩)) (Fr.up ⟨by omega, rfl⟩)) (Fr.up ⟨by omega, rfl⟩)), by rw [up_v, if_pos rfl], fun f hf => ?_, fun x a b9 => ?_, fun x a => ?_⟩ p5 s1.n.n.n.s k
        · rw [up_v, if_neg hf, up_kne (by decide), up_kne (by decide), up_kne (by decide)]; exact hX.2.2.1 f hf
        · have e8 : ∀ v1 v2 v3 w, bc_up (bc_up (bc_up (bc_up X 8 z c v1) 9 z c v2) 10 z c v3) 6 z 3 w 8 z x = if x = c then v1 else X 8 z x := fun v1 v2 v3 w => by rw [up_kne (by decide), up_kne (by decide), up_kne (by decide), up_v]
          have e9 : ∀ v1 v2 v3 w, bc_up (bc_up (bc_up (bc_up X 8 z c v1) 9 z c v2) 10 z c v3) 6 z 3 w 9 z x = if x = c then v2 else X 9 z x := fun v1 v2 v3 w => by rw [up_kne (by decide), up_kne (by decide), up_v, up_kne (by decide)]
          have e10 : ∀ v1 v2 v3 w, bc_up (bc_up (bc_up (bc_up X 8 z c v1) 9 z c v2) 10 z c v3) 6 z 3 w 10 z x = if x = c then v3 else X 10 z x := fun v1 v2 v3 w => by rw [up_kne (by decide), up_v, up_kne (by decide), up_kne (by decide)]
          rw [e8, e9, e10]
          by_cases hx : x = c
          · subst hx
            rw [if_pos rfl, if_pos rfl, if_pos rfl, u_ne (by omega), u_ne (by omega), u_at, u_ne (by omega), u_at, u_at]
            exact ⟨rfl, rfl, rfl⟩
          · rw [if_neg hx, if_neg hx, if_neg hx, u_ne (by omega), u_ne (by omega), u_ne (by omega), u_ne (by omega), u_ne (by omega), u_ne (by omega), u_ne (by omega), u_ne (by omega), u_ne (by omega)]
            exact hX.2.2.2.1 x a (by omega)
        · rw [up_kne (by decide), up_kne (by decide), up_v, if_neg (by omega), up_kne (by decide)]
          exact hX.2.2.2.2 x (by omega)
      · have hw : ¬ (p_w b 2 σ = true ∧ c < 16) := by
          intro h9
          rw [if_pos h9] at c18
          exact c18 (by decide)
        have hk9 : (itL b len nd (n + 1) c σ Dd) = (p_bg b len 2 c 1 16 σ, c, Dd) := by
          simp only [itL]
          unfold p_bg
          by_cases h8 : p_w b 2 σ = true
          · have h6 : ¬ c < 16 := fun q => hw ⟨h8, q⟩
            rw [if_pos h8, if_pos h8, if_pos (by omega), if_neg (by omega)]
          · rw [if_neg h8, if_neg h8]
            by_cases h7 : c = 0
            · rw [if_pos h7, if_neg (by omega)]
            · rw [if_neg h7, if_pos (by omega)]
        rw [hk9] at k
        refine wp_return eX2_readItems_21 ?_
        exact k X g1 hX p1
theorem ct_pItems {G : bc_G} {M : bc_M} {post : bc_R → bc_M → Prop} {b : Int → Int} {len : Int} (hb : BC M b len) {σ : bl_s} (hP : PC (M 3 0) len σ) (hσ : SG len σ) {z nd : Int} {Dd : Int → Int} (hz : 0 ≤ z ∧ z < 12) (hnd : 0 ≤ nd ∧ nd ≤ 4) (e20 : M 6 z 2 = nd) (h0 : M 6 z 3 = 0) (k : ∀ (X' : bc_M) (g' : Int → Int), ITC M X' z (itL b len nd 17 0 σ Dd).2.1 (itL b len nd 17 0 σ Dd).2.2 → PC g' len (itL b len nd 17 0 σ Dd).1 → post (.inr none) (bc_row X' 3 0 g')) : bc_Call G yX2_readItems cX2_readItems 6 none 8 0 [vR G 3 0, vR G 6 z] M post := by
  refine bc_enter (L := [some (vR G 3 0), some (vR G 6 z), none, none, none, none]) (by decide) rfl rfl ?_
  refine wp_iconst eX2_readItems_0 ?_
  refine ist_2 eX2_readItems_1 ?_
  rw [show M = bc_row M 3 0 (M 3 0) from row_self.symm]
  exact lp_pItems hb hz hnd e20 17 0 σ (M 3 0) M Dd none none none (by omega) (by omega) ⟨Fr.rf, h0, fun _ _ => rfl, fun x a b9 => by omega, fun _ _ => rfl⟩ hP hσ k
set_option maxHeartbeats 1000000 in
theorem lp_pClients {G : bc_G} {M : bc_M} {post : bc_R → bc_M → Prop} {b : Int → Int} {len : Int} (hb : BC M b len) {z : Int} (hz : 0 ≤ z ∧ z < 12) : ∀ (n : Nat) (c : Int) (σ : bl_s) (g : Int → Int) (X : bc_M) (Dd : Int → Int) (y3 y4 : Option Value) (h1 : c + n = 5) (h2 : 0 ≤ c ∧ c ≤ 4) (hX : CLC M X z c σ.1 Dd) (hP : PC g len σ) (hσ : SG len σ) (k : ∀ (X' : bc_M) (g' : Int → Int), CLC M X' z (clL b len n c σ Dd).2.1 (clL b len n c σ Dd).1.1 (clL b len n c σ Dd).2.2 → PC g' len (clL b len n c σ Dd).1 → post (.inr none) (bc_row X' 3 0 g')), bc_W G RX2 cX2_readClients 5 none 8 0 0 2 [some (vR G 3 0), some (vR G 5 z), some (vI c), y3, y4] [] (bc_row X 3 0 g) post := by
  intro n
  induction n with
  | zero =>
    intro c σ g X Dd y3 y4 h1 h2 hX hP hσ k
    have hl := hb.2
    have hbX : BC X b len := hb.fr (hX.1 2 0 (by omega))
    refine wp_iload_n eX2_readClients_2 rfl ?_
    refine wp_iconst eX2_readClients_3 ?_
    refine wp_icmp_gt eX2_readClients_4 (fun c4 => ?_) (fun c4 => ?_)
    · omega
    · omega
  | succ n ih =>
    intro c σ g X Dd y3 y4 h1 h2 hX hP hσ k
    have hl := hb.2
    have hbX : BC X b len := hb.fr (hX.1 2 0 (by omega))
    refine wp_iload_n eX2_readClients_2 rfl ?_
    refine wp_iconst eX2_readClients_3 ?_
    refine wp_icmp_gt eX2_readClients_4 (fun c4 => ?_) (fun c4 => ?_)
    · omega
    · refine wp_aload_n eX2_readClients_7 rfl ?_
      refine wp_ldcS (ti := 3) (tx := "client") eX2_readClients_8 (by decide +kernel) ?_
      refine wp_iload_n eX2_readClients_10 rfl ?_
      refine wp_iconst eX2_readClients_11 ?_
      refine wp_iconst eX2_readClients_12 ?_
      refine c_X2_72 eX2_readClients_13 (ct_pBegins (hbX.row (by decide)) (by rw [row_at]; exact hP) hσ (ti := 3) (n := c) (lo := 0) (mx := 4) (by decide) (by omega) (by decide) (by decide) (fun g1 p1 => ?_))
      rw [row_row]
      refine wp_if_ne eX2_readClients_16 (fun c16 => ?_) (fun c16 => ?_) (by split <;> omega)
      · have hw : p_w b 3 σ = true ∧ c < 4 := by
          apply Decidable.byContradiction
          intro h9
          rw [if_neg h9] at c16
          exact absurd rfl c16
        rw [show p_bg b len 3 c 0 4 σ = p_a b len σ by unfold p_bg; rw [if_pos hw.1, if_pos hw.2]] at p1
        have s1 : SG len (p_a b len σ) := hσ.a
        refine wp_aload_n eX2_readClients_20 rfl ?_
        refine wp_iconst eX2_readClients_21 ?_
        refine wp_iconst eX2_readClients_22 ?_
        refine c_X2_76 eX2_readClients_23 (ct_pNum (lo := 0) (hi := 4) (by decide) (by decide) (hbX.row (by decide)) (by rw [row_at]; exact p1) s1 (fun g2 p2 => ?_))
        rw [row_row]
        refine ist_3 eX2_readClients_26 ?_
        refine wp_aload_n eX2_readClients_27 rfl ?_
        refine c_X2_104 eX2_readClients_28 (ct_pPolicy (hbX.row (by decide)) (by rw [row_at]; exact p2) s1.n (fun g3 p3 v hv hvr => ?_))
        rw [row_row]
        refine ist_4 eX2_readClients_31 ?_
        refine wp_aload_n eX2_readClients_33 rfl ?_
        refine c_X2_85 eX2_readClients_34 (ct_pSemi (hbX.row (by decide)) (by rw [row_at]; exact p3) s1.n.pa (fun g4 p4 => ?_))
        rw [row_row]
        refine wp_aload_n eX2_readClients_37 rfl ?_
        refine wp_iload_n eX2_readClients_38 rfl ?_
        refine wp_iload eX2_readClients_39 rfl ?_
        refine c_X2_108 eX2_readClients_41 (ct_addClient (by omega) (by rw [row_kne (by decide), hX.2.1]; omega) (fun X2 f2 a1 a2 a3 a4 a5 => ?_))
        rw [row_kne (by decide), hX.2.1] at f2 a1 a2 a3 a4 a5
        have eX2 : X2 = bc_row X2 3 0 g4 := by
          have e9 : X2 3 0 = g4 := by rw [f2 3 0 (by unfold CLP; omega), row_at]
          rw [← e9]
          exact row_self.symm
        rw [eX2]
        have f3 : ∀ k9 j9, k9 ≠ 3 → ¬ ((k9 = 5 ∧ j9 = z) ∨ CLP (4 * z + c) k9 j9) → X2 k9 j9 = X k9 j9 := fun k9 j9 h3 h => by rw [f2 k9 j9 h, row_kne h3]
        refine inc_2 eX2_readClients_44 ?_
        refine wp_goto eX2_readClients_47 ?_
        have hk9 : (clL b len (n + 1) c σ Dd) = (clL b len n (c + 1) (p_s b len (p_pa b len (p_n b len 0 4 (p_a b len σ)))) (bc_u (bc_u Dd (54 + 2 * c) (p_a b len σ).2.2.2.2) (54 + 2 * c + 1) (p_po b (p_n b len 0 4 (p_a b len σ))))) := by
          simp only [clL]
          rw [if_pos hw.1, if_neg (by omega)]
        rw [hk9] at k
        have hPg : PC (X2 3 0) len (p_s b len (p_pa b len (p_n b len 0 4 (p_a b len σ)))) := by rw [f2 3 0 (by unfold CLP; omega), row_at]; exact p4
        refine ih (c + 1) _ g4 X2 (bc_u (bc_u Dd (54 + 2 * c) (p_a b len σ).2.2.2.2) (54 + 2 * c + 1) (p_po b (p_n b len 0 4 (p_a b len σ)))) _ _ (by omega) (by omega) ⟨fun k9 j9 h9 => ?_, a1, fun x a b9 => ?_⟩ p4 s1.n.pa.s k
        · rw [f3 k9 j9 (by omega) (by unfold CLP; omega)]; exact hX.1 k9 j9 h9
        · have hn : ∀ f, f = 12 ∨ f = 13 ∨ f = 14 → x ≠ c → X2 f (4 * z + x) = X f (4 * z + x) := fun f hf hx => f3 f _ (by omega) (by unfold CLP; omega)
          by_cases hx : x = c
          · subst hx
            refine ⟨by rw [a2, u_ne (by omega), u_at], fun z9 => ?_, fun f p9 q9 => a4 f p9 q9, fun q9 p9 r9 => a5 q9 p9 r9⟩
            have z1 := p_s_0 z9
            have z2 := p_pa_0 z1
            have hpo : 0 ≤ p_po b (p_n b len 0 4 (p_a b len σ)) := by
              apply Decidable.byContradiction
              intro h8
              unfold p_pa at z1
              rw [if_pos (by omega), p_a_e (p_f_ne (by decide))] at z1
              exact absurd z1 (p_f_ne (by decide))
            rw [a3, hv z2 hpo, u_at]
          · rw [hn 12 (by decide) hx, hn 13 (by decide) hx, hn 14 (by decide) hx, u_ne (by omega), u_ne (by omega), u_ne (by omega), u_ne (by omega)]
            have := hX.2.2 x a (by omega)
            exact ⟨this.1, fun z9 => this.2.1 (p_a_0 (p_n_0 (p_pa_0 (p_s_0 z9)))), this.2.2⟩
      · have hw : ¬ (p_w b 3 σ = true ∧ c < 4) := by
          intro h9
          rw [if_pos h9] at c16
          exact c16 (by decide)
        have hk9 : (clL b len (n + 1) c σ Dd) = (p_bg b len 3 c 0 4 σ, c, Dd) := by
          simp only [clL]
          unfold p_bg
          by_cases h8 : p_w b 3 σ = true
          · have h6 : ¬ c < 4 := fun q => hw ⟨h8, q⟩
            rw [if_pos h8, if_pos h8, if_pos (by omega), if_neg (by omega)]
          · rw [if_neg h8, if_neg h8, if_pos (by omega)]
        rw [hk9] at k
        have hE9 : (p_bg b len 3 c 0 4 σ).1 = 0 → σ.1 = 0 := fun z9 => by
          apply Decidable.byContradiction
          intro h7
          unfold p_bg at z9
          rw [if_neg (by rw [p_w_e h7]; decide), if_pos (by omega)] at z9
          exact h7 z9
        refine wp_return eX2_readClients_19 ?_
        exact k X g1 ⟨hX.1, hX.2.1, fun x a b9 => ⟨(hX.2.2 x a b9).1, fun z9 => (hX.2.2 x a b9).2.1 (hE9 z9), (hX.2.2 x a b9).2.2⟩⟩ p1
theorem ct_pClients {G : bc_G} {M : bc_M} {post : bc_R → bc_M → Prop} {b : Int → Int} {len : Int} (hb : BC M b len) {σ : bl_s} (hP : PC (M 3 0) len σ) (hσ : SG len σ) {z : Int} {Dd : Int → Int} (hz : 0 ≤ z ∧ z < 12) (h0 : M 5 z 1 = 0) (k : ∀ (X' : bc_M) (g' : Int → Int), CLC M X' z (clL b len 5 0 σ Dd).2.1 (clL b len 5 0 σ Dd).1.1 (clL b len 5 0 σ Dd).2.2 → PC g' len (clL b len 5 0 σ Dd).1 → post (.inr none) (bc_row X' 3 0 g')) : bc_Call G yX2_readClients cX2_readClients 5 none 8 0 [vR G 3 0, vR G 5 z] M post := by
  refine bc_enter (L := [some (vR G 3 0), some (vR G 5 z), none, none, none]) (by decide) rfl rfl ?_
  refine wp_iconst eX2_readClients_0 ?_
  refine ist_2 eX2_readClients_1 ?_
  rw [show M = bc_row M 3 0 (M 3 0) from row_self.symm]
  exact lp_pClients hb hz 5 0 σ (M 3 0) M Dd none none (by omega) (by omega) ⟨Fr.rf, h0, fun x a b9 => by omega⟩ hP hσ k
