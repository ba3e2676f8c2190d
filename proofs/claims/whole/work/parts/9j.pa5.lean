theorem ld_eqs {b D : Int → Int} {len : Int} (h : (ldE b len D).1 = 0) : (∀ q, q < 54 → (ldC b len D).2.2 q = (ldI b len D).2.2 q) ∧ (∀ q, q < 6 → (ldI b len D).2.2 q = (ldD b len D).2.2 q) ∧ ∀ q, q < 2 → (ldD b len D).2.2 q = ixD b len (0, lx b len 0) D q := by
  have z5 := ldE_0 h
  have z4 : (ldI b len D).1.1 = 0 := clL_0 _ _ _ _ z5
  have z3 : (ldD b len D).1.1 = 0 := itL_0 _ _ _ _ z4
  have a3 := dkL_v (b := b) (len := len) 5 0 (ld1 b len) (ixD b len (0, lx b len 0) D) (by omega) (by omega) (by omega) (fun x a b9 => by omega) z3
  have a4 := itL_v (b := b) (len := len) (nd := (ldD b len D).2.1) 17 0 (ldD b len D).1 (ldD b len D).2.2 (by omega) (by omega) (by omega) (fun x a b9 => by omega) z4
  have a5 := clL_v (b := b) (len := len) 5 0 (ldI b len D).1 (ldI b len D).2.2 (by omega) (by omega) (by omega) (fun x a b9 => by omega) z5
  exact ⟨a5.2, a4.2.2, a3.2.2⟩
theorem itL_r {b : Int → Int} {len nd : Int} : ∀ (n : Nat) (c : Int) (σ : bl_s) (D : Int → Int), SG len σ → 0 ≤ c → (∀ x, 0 ≤ x → x < c → 0 ≤ D (6 + 3 * x + 1) ∧ D (6 + 3 * x + 1) < 10000) → ∀ x, 0 ≤ x → x < (itL b len nd n c σ D).2.1 → 0 ≤ (itL b len nd n c σ D).2.2 (6 + 3 * x + 1) ∧ (itL b len nd n c σ D).2.2 (6 + 3 * x + 1) < 10000
  | 0, c, σ, D, _, _, h => h
  | n + 1, c, σ, D, hs, hc, h => by
    simp only [itL]
    split
    · split
      · exact h
      · refine itL_r n (c + 1) _ _ hs.a.n.n.n.s (by omega) (fun x a b9 => ?_)
        rw [u_ne (by omega)]
        by_cases e : x = c
        · subst e; rw [u_at]; exact hs.a.n.2.2.2
        · rw [u_ne (by omega), u_ne (by omega)]; exact h x a (by omega)
    · exact h
/-- the draft z holds what was read -/
def DF (M : bc_M) (z : Int) (D : Int → Int) (nd ni nc : Int) : Prop := (M 6 z 0 = D 0 ∧ M 6 z 1 = D 1 ∧ M 6 z 2 = nd ∧ M 6 z 3 = ni) ∧ (∀ x, 0 ≤ x → x < nd → M 7 z x = D (2 + x)) ∧ (∀ x, 0 ≤ x → x < ni → M 8 z x = D (6 + 3 * x) ∧ M 9 z x = D (6 + 3 * x + 1) ∧ M 10 z x = D (6 + 3 * x + 2)) ∧ M 5 z 1 = nc ∧ ∀ x, 0 ≤ x → x < nc → M 12 (4 * z + x) 0 = D (54 + 2 * x) ∧ M 12 (4 * z + x) 1 = D (54 + 2 * x + 1) ∧ (∀ f, 2 ≤ f → f < 9 → M 12 (4 * z + x) f = 0) ∧ ∀ q, 0 ≤ q → q < 16 → M 13 (4 * z + x) q = 0 ∧ M 14 (4 * z + x) q = 0
def rdP (z : Int) : Nat → Int → Prop := fun k j => k = 3 ∨ ((5 ≤ k ∧ k ≤ 10) ∧ j = z) ∨ ((k = 12 ∨ k = 13 ∨ k = 14) ∧ 4 * z ≤ j ∧ j < 4 * z + 4)
set_option maxHeartbeats 2000000 in
theorem ct_pRead {G : bc_G} {M : bc_M} {post : bc_R → bc_M → Prop} {b D0 : Int → Int} {len z : Int} (hb : BC M b len) (hz : 0 ≤ z ∧ z < 12) (h9r : ∀ q, 0 ≤ q → q < 16 → 0 ≤ M 9 z q ∧ M 9 z q < 10000) (k : ∀ M' : bc_M, Fr (rdP z) M M' → PC (M' 3 0) len (ldE b len D0) → SG len (ldE b len D0) → (∀ q, 0 ≤ q → q < 16 → 0 ≤ M' 9 z q ∧ M' 9 z q < 10000) → ((ldE b len D0).1 = 0 → DF M' z (ldC b len D0).2.2 (ldD b len D0).2.1 (ldI b len D0).2.1 (ldC b len D0).2.1) → post (.inr (some (vI (ldE b len D0).1))) M') : bc_Call G yX2_read cX2_read 4 (some .int) 9 0 [vR G 3 0, vR G 2 0, vI len, vR G 5 z] M post := by
  have hl := hb.2
  refine bc_enter (L := [some (vR G 3 0), some (vR G 2 0), some (vI len), some (vR G 5 z)]) (by decide) rfl rfl ?_
  refine wp_aload_n eX2_read_0 rfl ?_
  refine wp_aload_n eX2_read_1 rfl ?_
  refine pf_text eX2_read_2 ?_
  refine wp_aload_n eX2_read_5 rfl ?_
  refine wp_iload_n eX2_read_6 rfl ?_
  refine wp_aload_n eX2_read_7 rfl ?_
  refine wp_len2 eX2_read_8 ?_
  refine c_X2_34 eX2_read_9 (ct_min ?_)
  rw [show min len 500 = len by omega]
  refine pf_X2_15 eX2_read_12 ?_
  refine wp_aload_n eX2_read_15 rfl ?_
  refine wp_iconst eX2_read_16 ?_
  refine pf_X2_19 eX2_read_17 ?_
  refine wp_aload_n eX2_read_20 rfl ?_
  refine wp_iconst eX2_read_21 ?_
  refine pf_X2_25 eX2_read_22 ?_
  refine wp_aload_n eX2_read_25 rfl ?_
  refine c_X2_40 eX2_read_26 (ct_clear (by omega) ?_)
  rw [show bc_up (bc_up (bc_up (bc_up M 3 0 0 1) 3 0 1 len) 3 0 2 0) 3 0 4 0 = bc_row M 3 0 (bc_u (bc_u (bc_u (bc_u (M 3 0) 0 1) 1 len) 2 0) 4 0) by
    have e9 := @row_self M 3 0
    calc bc_up (bc_up (bc_up (bc_up M 3 0 0 1) 3 0 1 len) 3 0 2 0) 3 0 4 0 = bc_up (bc_up (bc_up (bc_up (bc_row M 3 0 (M 3 0)) 3 0 0 1) 3 0 1 len) 3 0 2 0) 3 0 4 0 := by rw [e9]
      _ = _ := by rw [up_row, up_row, up_row, up_row]]
  rw [up_row_c (by decide), up_row_c (by decide), up_row_c (by decide)]
  generalize hM2 : bc_up (bc_up (bc_up M 6 z 2 0) 6 z 3 0) 5 z 1 0 = M2
  have f2 : Fr (rdP z) M M2 := by rw [← hM2]; exact Fr.tr (Fr.tr (Fr.up (Or.inr (Or.inl ⟨by omega, rfl⟩))) (Fr.up (Or.inr (Or.inl ⟨by omega, rfl⟩)))) (Fr.up (Or.inr (Or.inl ⟨by omega, rfl⟩)))
  have hb0 : BC M2 b len := hb.fr (f2 2 0 (by unfold rdP; omega))
  have m62 : M2 6 z 2 = 0 := by rw [← hM2, up_kne (by decide), up_v, if_neg (by decide), up_v, if_pos rfl]
  have m63 : M2 6 z 3 = 0 := by rw [← hM2, up_kne (by decide), up_v, if_pos rfl]
  have m51 : M2 5 z 1 = 0 := by rw [← hM2, up_v, if_pos rfl]
  have m9 : M2 9 z = M 9 z := by rw [← hM2, up_kne (by decide), up_kne (by decide), up_kne (by decide)]
  refine wp_aload_n eX2_read_29 rfl ?_
  refine c_X2_45 eX2_read_30 (ct_pAdvF (en0 := 0) (b := b) (len := len) (hb0.row (by decide)) (by rw [row_at]; simp [bc_u]) (by rw [row_at]; simp [bc_u]) (by rw [row_at]; simp [bc_u]) (by rw [row_at]; simp [bc_u]) ⟨by omega, hb.2.1⟩ (fun g2 p2 => ?_))
  rw [row_row]
  have s2 : SG len (0, lx b len 0) := by
    have := lxS_r (b := b) (len := len) (p := 0) hb.2.1
    exact lx_at_r (by omega)
  refine wp_aload_n eX2_read_33 rfl ?_
  refine wp_aload_n eX2_read_34 rfl ?_
  refine gf_X2_48 eX2_read_35 ?_
  refine c_X2_52 eX2_read_38 (ct_pIndex (hb0.row (by decide)) (by rw [row_at]; exact p2) s2 (by omega) (fun g3 p3 => ?_))
  rw [up_row_c (by decide), up_row_c (by decide), row_row]
  generalize hM3 : bc_up (bc_up M2 6 z 0 (p_k b len 0 (0, lx b len 0)).2.2.2.2) 6 z 1 (p_n b len 0 8 (p_k b len 0 (0, lx b len 0))).2.2.2.2 = M3
  have f3 : Fr (rdP z) M M3 := by rw [← hM3]; exact Fr.tr f2 (Fr.tr (Fr.up (Or.inr (Or.inl ⟨by omega, rfl⟩))) (Fr.up (Or.inr (Or.inl ⟨by omega, rfl⟩))))
  have b3 : BC M3 b len := hb.fr (f3 2 0 (by unfold rdP; omega))
  have v3 : ∀ f, M3 6 z f = if f = 1 then (p_n b len 0 8 (p_k b len 0 (0, lx b len 0))).2.2.2.2 else if f = 0 then (p_k b len 0 (0, lx b len 0)).2.2.2.2 else M2 6 z f := fun f => by rw [← hM3, up_v, up_v]
  have w3 : M3 5 z 1 = 0 := by rw [← hM3, up_kne (by decide), up_kne (by decide)]; exact m51
  have s3 : SG len (ld1 b len) := s2.k.n.n.s
  refine wp_aload_n eX2_read_41 rfl ?_
  refine wp_aload_n eX2_read_42 rfl ?_
  refine gf_X2_48 eX2_read_43 ?_
  refine c_X2_56 eX2_read_46 (ct_pDisks (z := z) (Dd := ixD b len (0, lx b len 0) D0) (b3.row (by decide)) (by rw [row_at]; exact p3) s3 (by omega) (by rw [row_kne (by decide), v3 2]; exact m62) (fun X4 g4 h4 p4 => ?_))
  have x4 : ∀ k9 j9, k9 ≠ 3 → ¬ ((k9 = 6 ∨ k9 = 7) ∧ j9 = z) → X4 k9 j9 = M3 k9 j9 := fun k9 j9 a h => by rw [h4.1 k9 j9 h, row_kne a]
  have f4 : Fr (rdP z) M (bc_row X4 3 0 g4) := fun k9 j9 h => by
    unfold rdP at h
    rw [row_kne (by omega), x4 k9 j9 (by omega) (by omega)]
    exact f3 k9 j9 (by unfold rdP; omega)
  have b4 : BC X4 b len := b3.fr (x4 2 0 (by decide) (by omega))
  have n4 := dkL_n (b := b) (len := len) 5 0 (ld1 b len) (ixD b len (0, lx b len 0) D0) (by omega) (by omega)
  have s4 := dkL_sg (b := b) 5 0 (ld1 b len) (ixD b len (0, lx b len 0) D0) s3
  refine wp_aload_n eX2_read_49 rfl ?_
  refine wp_aload_n eX2_read_50 rfl ?_
  refine gf_X2_48 eX2_read_51 ?_
  refine c_X2_59 eX2_read_54 (ct_pItems (z := z) (nd := (ldD b len D0).2.1) (Dd := (ldD b len D0).2.2) (b4.row (by decide)) (by rw [row_at]; exact p4) s4 (by omega) n4 (by rw [row_kne (by decide)]; exact h4.2.1) (by rw [row_kne (by decide), h4.2.2.1 3 (by decide), row_kne (by decide), v3 3]; exact m63) (fun X5 g5 h5 p5 => ?_))
  have x5 : ∀ k9 j9, k9 ≠ 3 → ¬ ((k9 = 6 ∨ k9 = 8 ∨ k9 = 9 ∨ k9 = 10) ∧ j9 = z) → X5 k9 j9 = X4 k9 j9 := fun k9 j9 a h => by rw [h5.1 k9 j9 h, row_kne a]
  have f5 : Fr (rdP z) M (bc_row X5 3 0 g5) := fun k9 j9 h => by
    have h9 := f4 k9 j9 h
    unfold rdP at h
    rw [row_kne (by omega)] at h9 ⊢
    rw [x5 k9 j9 (by omega) (by omega)]
    exact h9
  have b5 : BC X5 b len := b4.fr (x5 2 0 (by decide) (by omega))
  have s5 := itL_sg (b := b) (nd := (ldD b len D0).2.1) 17 0 (ldD b len D0).1 (ldD b len D0).2.2 s4
  have r5 := itL_r (b := b) (len := len) (nd := (ldD b len D0).2.1) 17 0 (ldD b len D0).1 (ldD b len D0).2.2 s4 (by omega) (fun x a b9 => by omega)
  refine wp_aload_n eX2_read_57 rfl ?_
  refine wp_aload_n eX2_read_58 rfl ?_
  refine c_X2_62 eX2_read_59 (ct_pClients (z := z) (Dd := (ldI b len D0).2.2) (b5.row (by decide)) (by rw [row_at]; exact p5) s5 (by omega) (by rw [row_kne (by decide), x5 5 z (by decide) (by omega), x4 5 z (by decide) (by omega)]; exact w3) (fun X6 g6 h6 p6 => ?_))
  have x6 : ∀ k9 j9, k9 ≠ 3 → ¬ ((k9 = 5 ∧ j9 = z) ∨ ((k9 = 12 ∨ k9 = 13 ∨ k9 = 14) ∧ 4 * z ≤ j9 ∧ j9 < 4 * z + 4)) → X6 k9 j9 = X5 k9 j9 := fun k9 j9 a h => by rw [h6.1 k9 j9 (fun q => q.elim a h), row_kne a]
  have f6 : ∀ g9 : Int → Int, Fr (rdP z) M (bc_row X6 3 0 g9) := fun g9 k9 j9 h => by
    have h9 := f5 k9 j9 h
    unfold rdP at h
    rw [row_kne (by omega)] at h9 ⊢
    rw [x6 k9 j9 (by omega) (by omega)]
    exact h9
  have s6 : SG len (ldC b len D0).1 := clL_sg (b := b) 5 0 (ldI b len D0).1 (ldI b len D0).2.2 s5
  replace p6 : PC g6 len (ldC b len D0).1 := p6
  have hR : ∀ g9 : Int → Int, ∀ q, 0 ≤ q → q < 16 → 0 ≤ bc_row X6 3 0 g9 9 z q ∧ bc_row X6 3 0 g9 9 z q < 10000 := fun g9 q a b9 => by
    rw [row_kne (by decide), x6 9 z (by decide) (by omega)]
    by_cases hq : q < (ldI b len D0).2.1
    · rw [(h5.2.2.2.1 q a hq).2.1]; exact r5 q a hq
    · rw [h5.2.2.2.2 q (Int.not_lt.mp hq), row_kne (by decide), x4 9 z (by decide) (by omega), ← hM3, up_kne (by decide), up_kne (by decide)]
      rw [m9]; exact h9r q a b9
  have hDF : ∀ g9 : Int → Int, (ldE b len D0).1 = 0 → DF (bc_row X6 3 0 g9) z (ldC b len D0).2.2 (ldD b len D0).2.1 (ldI b len D0).2.1 (ldC b len D0).2.1 := fun g9 he => by
    have hq := ld_eqs he
    have hcc : ∀ f, bc_row X6 3 0 g9 6 z f = X5 6 z f := fun f => by rw [row_kne (by decide), x6 6 z (by decide) (by omega)]
    refine ⟨⟨?_, ?_, ?_, ?_⟩, fun x a b9 => ?_, fun x a b9 => ?_, ?_, fun x a b9 => ?_⟩
    · rw [hcc, h5.2.2.1 0 (by decide), row_kne (by decide), h4.2.2.1 0 (by decide), row_kne (by decide), v3 0, hq.1 0 (by decide), hq.2.1 0 (by decide), hq.2.2 0 (by decide)]
      unfold ixD
      rw [u_ne (by decide), u_at, if_neg (by decide), if_pos rfl]
    · rw [hcc, h5.2.2.1 1 (by decide), row_kne (by decide), h4.2.2.1 1 (by decide), row_kne (by decide), v3 1, hq.1 1 (by decide), hq.2.1 1 (by decide), hq.2.2 1 (by decide)]
      unfold ixD
      rw [u_at, if_pos rfl]
    · rw [hcc, h5.2.2.1 2 (by decide), row_kne (by decide)]; exact h4.2.1
    · rw [hcc]; exact h5.2.1
    · have n4' : (ldD b len D0).2.1 ≤ 4 := n4.2
      rw [row_kne (by decide), x6 7 z (by decide) (by omega), x5 7 z (by decide) (by omega), hq.1 (2 + x) (by omega), hq.2.1 (2 + x) (by omega)]
      exact h4.2.2.2 x a b9
    · have n5 := itL_n (b := b) (len := len) (nd := (ldD b len D0).2.1) 17 0 (ldD b len D0).1 (ldD b len D0).2.2 (by omega) (by omega)
      have n5' : (ldI b len D0).2.1 ≤ 16 := n5.2
      rw [row_kne (by decide), row_kne (by decide), row_kne (by decide), x6 8 z (by decide) (by omega), x6 9 z (by decide) (by omega), x6 10 z (by decide) (by omega), hq.1 (6 + 3 * x) (by omega), hq.1 (6 + 3 * x + 1) (by omega), hq.1 (6 + 3 * x + 2) (by omega)]
      exact h5.2.2.2.1 x a b9
    · rw [row_kne (by decide)]; exact h6.2.1
    · rw [row_kne (by decide), row_kne (by decide), row_kne (by decide)]
      have h9 := h6.2.2 x a b9
      exact ⟨h9.1, h9.2.1 (ldE_0 he), h9.2.2⟩
  refine wp_aload_n eX2_read_62 rfl ?_
  refine gf_X2_28 eX2_read_63 ?_
  rw [row_at, p6.2.2.2.2.1]
  have hk6 := s6.2.2.1
  refine wp_if_eq eX2_read_66 (fun c66 => ?_) (fun c66 => ?_)
  · refine wp_aload_n eX2_read_74 rfl ?_
    refine gf_X2_19 eX2_read_75 ?_
    rw [row_at, p6.2.1]
    refine wp_ireturn eX2_read_78 ?_
    have hE : ldE b len D0 = (ldC b len D0).1 := by unfold ldE; rw [if_pos (by exact c66)]
    have p9 : PC g6 len (ldE b len D0) := by rw [hE]; exact p6
    rw [show ((ldC b len D0).1).1 = (ldE b len D0).1 by rw [hE]]
    exact k _ (f6 g6) (by rw [row_at]; exact p9) (by rw [hE]; exact s6) (hR g6) (hDF g6)
  · refine wp_aload_n eX2_read_69 rfl ?_
    refine wp_iconst eX2_read_70 ?_
    refine c_X2_66 eX2_read_71 (ct_pFail (c := 1) (by rw [row_at]; exact p6) s6 (fun g7 p7 => ?_))
    rw [row_row]
    have s7 := s6.f (c := 1) (by decide)
    refine wp_aload_n eX2_read_74 rfl ?_
    refine gf_X2_19 eX2_read_75 ?_
    rw [row_at, p7.2.1]
    refine wp_ireturn eX2_read_78 ?_
    have hE : ldE b len D0 = p_f 1 (ldC b len D0).1 := by unfold ldE; rw [if_neg (by exact c66)]
    have p9 : PC g7 len (ldE b len D0) := by rw [hE]; exact p7
    rw [show (p_f 1 (ldC b len D0).1).1 = (ldE b len D0).1 by rw [hE]]
    exact k _ (f6 g7) (by rw [row_at]; exact p9) (by rw [hE]; exact s7) (hR g7) (hDF g7)
