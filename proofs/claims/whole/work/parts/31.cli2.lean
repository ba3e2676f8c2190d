theorem ct_speedOf {G : bc_G} {M : bc_M} {post : bc_R → bc_M → Prop} {z i : Int} (hz : 0 ≤ z ∧ z < 13) (hi : 0 ≤ i ∧ i < 16) (hd : 0 ≤ M 9 z i ∧ M 9 z i < M 6 z 2) (hn : M 6 z 2 ≤ 4) (k : post (.inr (some (vI (M 7 z (M 9 z i))))) M) : bc_Call G yX5_speedOf cX5_speedOf 3 (some .int) 1 0 [vR G 6 z, vI i] M post := by
  refine bc_enter (L := [some (vR G 6 z), some (vI i), none]) (by decide) rfl rfl ?_
  refine wp_aload_n eX5_speedOf_0 rfl ?_
  refine gf_X5_31 eX5_speedOf_1 ?_
  refine wp_iload_n eX5_speedOf_4 rfl ?_
  refine al_9 eX5_speedOf_5 ?_
  refine ist_2 eX5_speedOf_6 ?_
  refine wp_iload_n eX5_speedOf_7 rfl ?_
  refine wp_if_lt eX5_speedOf_8 (fun c8 => ?_) (fun c8 => ?_)
  · omega
  · refine wp_iload_n eX5_speedOf_11 rfl ?_
    refine wp_aload_n eX5_speedOf_12 rfl ?_
    refine gf_X5_18 eX5_speedOf_13 ?_
    refine wp_icmp_ge eX5_speedOf_16 (fun c16 => ?_) (fun c16 => ?_)
    · omega
    · refine wp_aload_n eX5_speedOf_19 rfl ?_
      refine gf_X5_24 eX5_speedOf_20 ?_
      refine wp_iload_n eX5_speedOf_23 rfl ?_
      refine al_7 eX5_speedOf_24 ?_
      refine wp_goto eX5_speedOf_25 ?_
      refine wp_ireturn eX5_speedOf_29 ?_
      exact k
def sp_fast (fr : Int → Int) (own : Int) : Nat → Int → Int → Int → Int
  | 0, _, found, _ => found
  | n + 1, d, found, slow => if own < fr d ∧ fr d < slow then sp_fast fr own n (d + 1) d (fr d) else sp_fast fr own n (d + 1) found slow
theorem lp_fast {G : bc_G} {M : bc_M} {post : bc_R → bc_M → Prop} {z i nd own : Int} {fr : Int → Int} (hz : 0 ≤ z ∧ z < 13) (hnd : 0 ≤ nd ∧ nd ≤ 4) (e6 : M 6 z 2 = nd) (e7 : M 7 z = fr) (hfr : ∀ d, 0 ≤ d → d < nd → 1 ≤ fr d ∧ fr d ≤ 6) (ho : 0 ≤ own ∧ own ≤ 100) : ∀ (n : Nat) (d f s : Int) (h1 : d + n = nd) (h2 : 0 ≤ d) (hs : 0 ≤ s ∧ s ≤ 100) (k : post (.inr (some (vI (sp_fast fr own n d f s)))) M), bc_W G RX5 cX5_fasterDisk 6 (some .int) 2 0 0 16 [some (vR G 6 z), some (vI i), some (vI own), some (vI f), some (vI s), some (vI d)] [] M post := by
  intro n
  induction n with
  | zero =>
    intro d f s h1 h2 hs k
    refine wp_iload eX5_fasterDisk_16 rfl ?_
    refine wp_aload_n eX5_fasterDisk_18 rfl ?_
    refine gf_X5_18 eX5_fasterDisk_19 ?_
    refine wp_icmp_ge eX5_fasterDisk_22 (fun c22 => ?_) (fun c22 => ?_)
    · refine wp_iload_n eX5_fasterDisk_66 rfl ?_
      refine wp_ireturn eX5_fasterDisk_67 ?_
      exact k
    · omega
  | succ n ih =>
    intro d f s h1 h2 hs k
    refine wp_iload eX5_fasterDisk_16 rfl ?_
    refine wp_aload_n eX5_fasterDisk_18 rfl ?_
    refine gf_X5_18 eX5_fasterDisk_19 ?_
    refine wp_icmp_ge eX5_fasterDisk_22 (fun c22 => ?_) (fun c22 => ?_)
    · omega
    · have hf := hfr d h2 (by omega)
      refine wp_aload_n eX5_fasterDisk_25 rfl ?_
      refine gf_X5_24 eX5_fasterDisk_26 ?_
      refine wp_iload eX5_fasterDisk_29 rfl ?_
      refine al_7 eX5_fasterDisk_31 ?_
      rw [e7]
      refine wp_iload_n eX5_fasterDisk_32 rfl ?_
      refine wp_icmp_le eX5_fasterDisk_33 (fun c33 => ?_) (fun c33 => ?_)
      · have k2 : post (.inr (some (vI (sp_fast fr own n (d + 1) f s)))) M := by simpa only [sp_fast, if_neg (show ¬ (own < fr d ∧ fr d < s) by omega)] using k
        refine inc_5 eX5_fasterDisk_60 ?_
        refine wp_goto eX5_fasterDisk_63 ?_
        exact ih (d + 1) _ _ (by omega) (by omega) (by omega) k2
      · refine wp_aload_n eX5_fasterDisk_36 rfl ?_
        refine gf_X5_24 eX5_fasterDisk_37 ?_
        refine wp_iload eX5_fasterDisk_40 rfl ?_
        refine al_7 eX5_fasterDisk_42 ?_
        rw [e7]
        refine wp_iload eX5_fasterDisk_43 rfl ?_
        refine wp_icmp_ge eX5_fasterDisk_45 (fun c45 => ?_) (fun c45 => ?_)
        · have k2 : post (.inr (some (vI (sp_fast fr own n (d + 1) f s)))) M := by simpa only [sp_fast, if_neg (show ¬ (own < fr d ∧ fr d < s) by omega)] using k
          refine inc_5 eX5_fasterDisk_60 ?_
          refine wp_goto eX5_fasterDisk_63 ?_
          exact ih (d + 1) _ _ (by omega) (by omega) (by omega) k2
        · have k2 : post (.inr (some (vI (sp_fast fr own n (d + 1) d (fr d))))) M := by simpa only [sp_fast, if_pos (show own < fr d ∧ fr d < s by omega)] using k
          refine wp_iload eX5_fasterDisk_48 rfl ?_
          refine ist_3 eX5_fasterDisk_50 ?_
          refine wp_aload_n eX5_fasterDisk_51 rfl ?_
          refine gf_X5_24 eX5_fasterDisk_52 ?_
          refine wp_iload eX5_fasterDisk_55 rfl ?_
          refine al_7 eX5_fasterDisk_57 ?_
          rw [e7]
          refine ist_4 eX5_fasterDisk_58 ?_
          refine inc_5 eX5_fasterDisk_60 ?_
          refine wp_goto eX5_fasterDisk_63 ?_
          exact ih (d + 1) _ _ (by omega) (by omega) (by omega) k2
theorem ct_fasterDisk {G : bc_G} {M : bc_M} {post : bc_R → bc_M → Prop} {z i nd : Int} {fr : Int → Int} (hz : 0 ≤ z ∧ z < 13) (hi : 0 ≤ i ∧ i < 16) (hnd : 0 ≤ nd ∧ nd ≤ 4) (e6 : M 6 z 2 = nd) (e7 : M 7 z = fr) (hfr : ∀ d, 0 ≤ d → d < nd → 1 ≤ fr d ∧ fr d ≤ 6) (hd : 0 ≤ M 9 z i ∧ M 9 z i < nd) (k : post (.inr (some (vI (sp_fast fr (fr (M 9 z i)) nd.toNat 0 (-2) 7)))) M) : bc_Call G yX5_fasterDisk cX5_fasterDisk 6 (some .int) 2 0 [vR G 6 z, vI i] M post := by
  refine bc_enter (L := [some (vR G 6 z), some (vI i), none, none, none, none]) (by decide) rfl rfl ?_
  refine wp_aload_n eX5_fasterDisk_0 rfl ?_
  refine wp_iload_n eX5_fasterDisk_1 rfl ?_
  refine c_X5_43 eX5_fasterDisk_2 (ct_speedOf hz hi (by omega) (by omega) ?_)
  rw [e7]
  have hof := hfr (M 9 z i) (by omega) (by omega)
  refine ist_2 eX5_fasterDisk_5 ?_
  refine wp_bipush eX5_fasterDisk_6 ?_
  refine ist_3 eX5_fasterDisk_8 ?_
  refine wp_bipush eX5_fasterDisk_9 ?_
  refine ist_4 eX5_fasterDisk_11 ?_
  refine wp_iconst eX5_fasterDisk_13 ?_
  refine ist_5 eX5_fasterDisk_14 ?_
  exact lp_fast hz hnd e6 e7 hfr (by omega) nd.toNat 0 (-2) 7 (by omega) (by omega) (by omega) k
theorem ct_note {G : bc_G} {M : bc_M} {post : bc_R → bc_M → Prop} {c i : Int} (hc : 0 ≤ c ∧ c < 50) (hi : 0 ≤ i ∧ i < 16) (k : ∀ M' : bc_M, Fr (CLP c) M M' → (∀ f, f ≠ 8 → M' 12 c f = M 12 c f) → M' 12 c 8 = M 12 c 8 + 1 → M' 13 c = bc_u (M 13 c) i (M 13 c i + 1) → M' 14 c = bc_u (M 14 c) i (M 12 c 8 + 1) → post (.inr none) M') : bc_Call G yX0_note cX0_note 2 none 1 0 [vR G 12 c, vI i] M post := by
  refine bc_enter (L := [some (vR G 12 c), some (vI i)]) (by decide) rfl rfl ?_
  refine wp_aload_n eX0_note_0 rfl ?_
  refine wp_dup eX0_note_1 ?_
  refine gf_X0_36 eX0_note_2 ?_
  refine wp_iconst eX0_note_5 ?_
  refine wp_iadd eX0_note_6 ?_
  refine pf_X0_36 eX0_note_7 ?_
  refine wp_aload_n eX0_note_10 rfl ?_
  refine gf_X0_39 eX0_note_11 ?_
  refine wp_iload_n eX0_note_14 rfl ?_
  refine wp_dup2 eX0_note_15 ?_
  refine al_13 eX0_note_16 ?_
  refine wp_iconst eX0_note_17 ?_
  refine wp_iadd eX0_note_18 ?_
  rw [up_kne (by decide)]
  refine as_13 eX0_note_19 ?_
  refine wp_aload_n eX0_note_20 rfl ?_
  refine gf_X0_43 eX0_note_21 ?_
  refine wp_iload_n eX0_note_24 rfl ?_
  refine wp_aload_n eX0_note_25 rfl ?_
  refine gf_X0_36 eX0_note_26 ?_
  rw [up_kne (by decide), up_v, if_pos rfl]
  refine as_14 eX0_note_29 ?_
  refine wp_return eX0_note_30 ?_
  refine k _ (fun k' j' hn => ?_) (fun f hf => ?_) ?_ ?_ ?_
  · unfold CLP at hn
    by_cases hjj : j' = c
    · rw [up_kne (by omega), up_kne (by omega), up_kne (by omega)]
    · rw [up_jne hjj, up_jne hjj, up_jne hjj]
  · rw [up_kne (by decide), up_kne (by decide), up_v, if_neg hf]
  · rw [up_kne (by decide), up_kne (by decide), up_v, if_pos rfl]
  · rw [up_kne (by decide), up_at, up_kne (by decide)]
  · rw [up_at, up_kne (by decide), up_kne (by decide)]
def cl_less (M : bc_M) (c z x y : Int) : Bool := if M 12 c 1 = 2 then (if M 8 z x * M 7 z (M 9 z y) - M 8 z y * M 7 z (M 9 z x) = 0 then decide (x < y) else decide (M 8 z x * M 7 z (M 9 z y) - M 8 z y * M 7 z (M 9 z x) < 0)) else if M 12 c 1 = 1 ∧ M 13 c x ≠ M 13 c y then decide (M 13 c x < M 13 c y) else decide (M 14 c x < M 14 c y)
/-- settings in the memory, in order -/
def SM (M : bc_M) (z : Int) : Prop := SV (M 9 z) (M 7 z) (M 6 z 2) (M 6 z 3) (M 6 z 0) (M 6 z 1) ∧ ∀ i, 0 ≤ i → i < M 6 z 3 → (0 ≤ M 8 z i ∧ M 8 z i ≤ 99) ∧ 0 ≤ M 10 z i ∧ M 10 z i ≤ 999
/-- a client in the memory, in order -/
def CV (M : bc_M) (c : Int) : Prop := (0 ≤ M 12 c 0 ∧ M 12 c 0 ≤ 4) ∧ (0 ≤ M 12 c 1 ∧ M 12 c 1 ≤ 2) ∧ (0 ≤ M 12 c 2 ∧ M 12 c 2 < 50000000) ∧ (0 ≤ M 12 c 7 ∧ M 12 c 7 < 65536) ∧ (0 ≤ M 12 c 8 ∧ M 12 c 8 ≤ 100000) ∧ ∀ i, 0 ≤ i → i < 16 → (0 ≤ M 13 c i ∧ M 13 c i ≤ 100000) ∧ 0 ≤ M 14 c i ∧ M 14 c i ≤ 100000
theorem ct_isWorthLess {G : bc_G} {M : bc_M} {post : bc_R → bc_M → Prop} {c z x y : Int} (hc : 0 ≤ c ∧ c < 50) (hz : 0 ≤ z ∧ z < 13) (hs : SM M z) (hv : CV M c) (hx : 0 ≤ x ∧ x < M 6 z 3) (hy : 0 ≤ y ∧ y < M 6 z 3) (k : post (.inr (some (vI (if cl_less M c z x y then 1 else 0)))) M) : bc_Call G yX0_isWorthLess cX0_isWorthLess 5 (some .boolean) 2 0 [vR G 12 c, vI x, vI y, vR G 6 z] M post := by
  have hni := hs.1.2.1
  have hnd := hs.1.1
  have hpol := hv.2.1
  have hcx := hv.2.2.2.2.2 x (by omega) (by omega)
  have hcy := hv.2.2.2.2.2 y (by omega) (by omega)
  refine bc_enter (L := [some (vR G 12 c), some (vI x), some (vI y), some (vR G 6 z), none]) (by decide) rfl rfl ?_
  refine wp_aload_n eX0_isWorthLess_0 rfl ?_
  refine gf_X0_15 eX0_isWorthLess_1 ?_
  refine wp_iconst eX0_isWorthLess_4 ?_
  refine wp_icmp_ne eX0_isWorthLess_5 (fun c5 => ?_) (fun c5 => ?_)
  · refine wp_aload_n eX0_isWorthLess_64 rfl ?_
    refine gf_X0_15 eX0_isWorthLess_65 ?_
    refine wp_iconst eX0_isWorthLess_68 ?_
    refine wp_icmp_ne eX0_isWorthLess_69 (fun c69 => ?_) (fun c69 => ?_)
    · refine wp_aload_n eX0_isWorthLess_108 rfl ?_
      refine gf_X0_43 eX0_isWorthLess_109 ?_
      refine wp_iload_n eX0_isWorthLess_112 rfl ?_
      refine al_14 eX0_isWorthLess_113 ?_
      refine wp_aload_n eX0_isWorthLess_114 rfl ?_
      refine gf_X0_43 eX0_isWorthLess_115 ?_
      refine wp_iload_n eX0_isWorthLess_118 rfl ?_
      refine al_14 eX0_isWorthLess_119 ?_
      refine wp_icmp_ge eX0_isWorthLess_120 (fun c120 => ?_) (fun c120 => ?_)
      · have hk : cl_less M c z x y = false := by
          unfold cl_less
          rw [if_neg (by omega), if_neg (by omega)]; exact decide_eq_false (by omega)
        rw [hk] at k
        refine wp_iconst eX0_isWorthLess_127 ?_
        refine wp_zreturn eX0_isWorthLess_128 (by decide) ?_
        exact k
      · have hk : cl_less M c z x y = true := by
          unfold cl_less
          rw [if_neg (by omega), if_neg (by omega)]; exact decide_eq_true (by omega)
        rw [hk] at k
        refine wp_iconst eX0_isWorthLess_123 ?_
        refine wp_goto eX0_isWorthLess_124 ?_
        refine wp_zreturn eX0_isWorthLess_128 (by decide) ?_
        exact k
    · refine wp_aload_n eX0_isWorthLess_72 rfl ?_
      refine gf_X0_39 eX0_isWorthLess_73 ?_
      refine wp_iload_n eX0_isWorthLess_76 rfl ?_
      refine al_13 eX0_isWorthLess_77 ?_
      refine wp_aload_n eX0_isWorthLess_78 rfl ?_
      refine gf_X0_39 eX0_isWorthLess_79 ?_
      refine wp_iload_n eX0_isWorthLess_82 rfl ?_
      refine al_13 eX0_isWorthLess_83 ?_
      refine wp_icmp_eq eX0_isWorthLess_84 (fun c84 => ?_) (fun c84 => ?_)
      · refine wp_aload_n eX0_isWorthLess_108 rfl ?_
        refine gf_X0_43 eX0_isWorthLess_109 ?_
        refine wp_iload_n eX0_isWorthLess_112 rfl ?_
        refine al_14 eX0_isWorthLess_113 ?_
        refine wp_aload_n eX0_isWorthLess_114 rfl ?_
        refine gf_X0_43 eX0_isWorthLess_115 ?_
        refine wp_iload_n eX0_isWorthLess_118 rfl ?_
        refine al_14 eX0_isWorthLess_119 ?_
        refine wp_icmp_ge eX0_isWorthLess_120 (fun c120 => ?_) (fun c120 => ?_)
        · have hk : cl_less M c z x y = false := by
            unfold cl_less
            rw [if_neg (by omega), if_neg (by omega)]; exact decide_eq_false (by omega)
          rw [hk] at k
          refine wp_iconst eX0_isWorthLess_127 ?_
          refine wp_zreturn eX0_isWorthLess_128 (by decide) ?_
          exact k
        · have hk : cl_less M c z x y = true := by
            unfold cl_less
            rw [if_neg (by omega), if_neg (by omega)]; exact decide_eq_true (by omega)
          rw [hk] at k
          refine wp_iconst eX0_isWorthLess_123 ?_
          refine wp_goto eX0_isWorthLess_124 ?_
          refine wp_zreturn eX0_isWorthLess_128 (by decide) ?_
          exact k
      · refine wp_aload_n eX0_isWorthLess_87 rfl ?_
        refine gf_X0_39 eX0_isWorthLess_88 ?_
        refine wp_iload_n eX0_isWorthLess_91 rfl ?_
        refine al_13 eX0_isWorthLess_92 ?_
        refine wp_aload_n eX0_isWorthLess_93 rfl ?_
        refine gf_X0_39 eX0_isWorthLess_94 ?_
        refine wp_iload_n eX0_isWorthLess_97 rfl ?_
        refine al_13 eX0_isWorthLess_98 ?_
        refine wp_icmp_ge eX0_isWorthLess_99 (fun c99 => ?_) (fun c99 => ?_)
        · have hk : cl_less M c z x y = false := by
            unfold cl_less
            rw [if_neg (by omega), if_pos (by omega)]; exact decide_eq_false (by omega)
          rw [hk] at k
          refine wp_iconst eX0_isWorthLess_106 ?_
          refine wp_zreturn eX0_isWorthLess_107 (by decide) ?_
          exact k
        · have hk : cl_less M c z x y = true := by
            unfold cl_less
            rw [if_neg (by omega), if_pos (by omega)]; exact decide_eq_true (by omega)
          rw [hk] at k
          refine wp_iconst eX0_isWorthLess_102 ?_
          refine wp_goto eX0_isWorthLess_103 ?_
          refine wp_zreturn eX0_isWorthLess_107 (by decide) ?_
          exact k
  · have hfx := hs.1.2.2.2.2.1 (M 9 z x) (hs.1.2.2.2.2.2 x hx.1 hx.2).1 (hs.1.2.2.2.2.2 x hx.1 hx.2).2
    have hfy := hs.1.2.2.2.2.1 (M 9 z y) (hs.1.2.2.2.2.2 y hy.1 hy.2).1 (hs.1.2.2.2.2.2 y hy.1 hy.2).2
    have b1 := bm_nn (a := M 8 z x) (b := M 7 z (M 9 z y)) (A := 99) (B := 6) (hs.2 x hx.1 hx.2).1 (by omega)
    have b2 := bm_nn (a := M 8 z y) (b := M 7 z (M 9 z x)) (A := 99) (B := 6) (hs.2 y hy.1 hy.2).1 (by omega)
    refine wp_aload_n eX0_isWorthLess_8 rfl ?_
    refine gf_X0_88 eX0_isWorthLess_9 ?_
    refine wp_iload_n eX0_isWorthLess_12 rfl ?_
    refine al_8 eX0_isWorthLess_13 ?_
    refine wp_aload_n eX0_isWorthLess_14 rfl ?_
    refine wp_iload_n eX0_isWorthLess_15 rfl ?_
    refine c_X0_91 eX0_isWorthLess_16 (ct_speedOf hz (by omega) (by have := hs.1.2.2.2.2.2 y (by omega) (by omega); omega) (by have := hs.1.1; omega) ?_)
    refine wp_imul eX0_isWorthLess_19 ?_
    refine wp_aload_n eX0_isWorthLess_20 rfl ?_
    refine gf_X0_88 eX0_isWorthLess_21 ?_
    refine wp_iload_n eX0_isWorthLess_24 rfl ?_
    refine al_8 eX0_isWorthLess_25 ?_
    refine wp_aload_n eX0_isWorthLess_26 rfl ?_
    refine wp_iload_n eX0_isWorthLess_27 rfl ?_
    refine c_X0_91 eX0_isWorthLess_28 (ct_speedOf hz (by omega) (by have := hs.1.2.2.2.2.2 x (by omega) (by omega); omega) (by have := hs.1.1; omega) ?_)
    refine wp_imul eX0_isWorthLess_31 ?_
    refine wp_isub eX0_isWorthLess_32 ?_
    refine ist_4 eX0_isWorthLess_33 ?_
    refine wp_iload eX0_isWorthLess_35 rfl ?_
    refine wp_if_eq eX0_isWorthLess_37 (fun c37 => ?_) (fun c37 => ?_)
    · refine wp_iload_n eX0_isWorthLess_53 rfl ?_
      refine wp_iload_n eX0_isWorthLess_54 rfl ?_
      refine wp_icmp_ge eX0_isWorthLess_55 (fun c55 => ?_) (fun c55 => ?_)
      · have hk : cl_less M c z x y = false := by
          unfold cl_less
          rw [if_pos (by omega), if_pos (by omega)]; exact decide_eq_false (by omega)
        rw [hk] at k
        refine wp_iconst eX0_isWorthLess_62 ?_
        refine wp_zreturn eX0_isWorthLess_63 (by decide) ?_
        exact k
      · have hk : cl_less M c z x y = true := by
          unfold cl_less
          rw [if_pos (by omega), if_pos (by omega)]; exact decide_eq_true (by omega)
        rw [hk] at k
        refine wp_iconst eX0_isWorthLess_58 ?_
        refine wp_goto eX0_isWorthLess_59 ?_
        refine wp_zreturn eX0_isWorthLess_63 (by decide) ?_
        exact k
    · refine wp_iload eX0_isWorthLess_40 rfl ?_
      refine wp_if_ge eX0_isWorthLess_42 (fun c42 => ?_) (fun c42 => ?_)
      · have hk : cl_less M c z x y = false := by
          unfold cl_less
          rw [if_pos (by omega), if_neg (by omega)]; exact decide_eq_false (by omega)
        rw [hk] at k
        refine wp_iconst eX0_isWorthLess_49 ?_
        refine wp_goto eX0_isWorthLess_50 ?_
        refine wp_zreturn eX0_isWorthLess_63 (by decide) ?_
        exact k
      · have hk : cl_less M c z x y = true := by
          unfold cl_less
          rw [if_pos (by omega), if_neg (by omega)]; exact decide_eq_true (by omega)
        rw [hk] at k
        refine wp_iconst eX0_isWorthLess_45 ?_
        refine wp_goto eX0_isWorthLess_46 ?_
        refine wp_zreturn eX0_isWorthLess_63 (by decide) ?_
        exact k
theorem ct_forget {G : bc_G} {M : bc_M} {post : bc_R → bc_M → Prop} (k : post (.inr none) (bc_up M 15 0 0 0)) : bc_Call G yX1_forget cX1_forget 1 none 1 0 [vR G 15 0] M post := by
  refine bc_enter (L := [some (vR G 15 0)]) (by decide) rfl rfl ?_
  refine wp_aload_n eX1_forget_0 rfl ?_
  refine wp_iconst eX1_forget_1 ?_
  refine pf_X1_9 eX1_forget_2 ?_
  refine wp_return eX1_forget_5 ?_
  exact k
/-- the state of number q is in M' as that of number b was in M -/
def hiOk (M' M : bc_M) : Prop := stEq M' (2 + M 15 0 1) M 1
theorem stEq_up15 {M1 M : bc_M} {a b j f v j2 f2 v2 : Int} (h : stEq M1 a M b) : stEq (bc_up (bc_up M1 15 j f v) 15 j2 f2 v2) a M b := by
  obtain ⟨⟨q1, q2, q3, q4, q5⟩, q6, q7⟩ := h
  refine ⟨⟨?_, ?_, ?_, ?_, fun f a b => ?_⟩, ?_, fun c a b => ⟨?_, ?_, fun f a9 b9 => ?_⟩⟩ <;> rw [up_kne (by decide), up_kne (by decide)]
  · exact q1
  · exact q2
  · exact q3
  · exact q4
  · exact q5 f a b
  · exact q6
  · exact (q7 c a b).1
  · exact (q7 c a b).2.1
  · exact (q7 c a b).2.2 f a9 b9
theorem ct_remember {G : bc_G} {M : bc_M} {post : bc_R → bc_M → Prop} (hn : 0 ≤ M 15 0 1 ∧ M 15 0 1 < 10) (hr : 0 ≤ M 15 0 0 ∧ M 15 0 0 ≤ 10) (hls : 0 ≤ M 5 1 1 ∧ M 5 1 1 ≤ 4) (k : ∀ M' : bc_M, Fr (fun k' j' => (k' = 15 ∧ j' = 0) ∨ STP (2 + M 15 0 1) k' j') M M' → stEq M' (2 + M 15 0 1) M 1 → M' 15 0 1 = (if M 15 0 1 + 1 < 10 then M 15 0 1 + 1 else 0) → M' 15 0 0 = min (M 15 0 0 + 1) 10 → post (.inr none) M') : bc_Call G yX1_remember cX1_remember 2 none 4 0 [vR G 15 0, vR G 5 1] M post := by
  refine bc_enter (L := [some (vR G 15 0), some (vR G 5 1)]) (by decide) rfl rfl ?_
  refine wp_aload_n eX1_remember_0 rfl ?_
  refine gf_X1_20 eX1_remember_1 ?_
  refine wp_aload_n eX1_remember_4 rfl ?_
  refine gf_X1_15 eX1_remember_5 ?_
  refine al_16 eX1_remember_8 ?_
  refine wp_aload_n eX1_remember_9 rfl ?_
  refine c_X1_25 eX1_remember_10 (ct_stCopy (by omega) (by omega) (by omega) hls rfl (fun M1 hF hE => ?_))
  have f15 : M1 15 0 = M 15 0 := hF 15 0 (by unfold STP; omega)
  refine wp_aload_n eX1_remember_13 rfl ?_
  refine wp_aload_n eX1_remember_14 rfl ?_
  refine gf_X1_15 eX1_remember_15 ?_
  refine wp_iconst eX1_remember_18 ?_
  refine wp_iadd eX1_remember_19 ?_
  rw [f15]
  refine wp_bipush eX1_remember_20 ?_
  refine wp_icmp_ge eX1_remember_22 (fun c22 => ?_) (fun c22 => ?_)
  · refine wp_iconst eX1_remember_34 ?_
    refine pf_X1_15 eX1_remember_35 ?_
    refine wp_aload_n eX1_remember_38 rfl ?_
    refine wp_aload_n eX1_remember_39 rfl ?_
    refine gf_X1_9 eX1_remember_40 ?_
    refine wp_iconst eX1_remember_43 ?_
    refine wp_iadd eX1_remember_44 ?_
    refine wp_bipush eX1_remember_45 ?_
    rw [up_v, if_neg (by decide), f15]
    refine c_X1_29 eX1_remember_47 (ct_min ?_)
    refine pf_X1_9 eX1_remember_50 ?_
    refine wp_return eX1_remember_53 ?_
    refine k _ (fun k' j' hn9 => ?_) (stEq_up15 hE) ?_ ?_
    · by_cases hk : k' = 15 ∧ j' = 0
      · exact absurd (Or.inl hk) hn9
      · have e1 : ∀ (Q : bc_M) (f v : Int), bc_up Q 15 0 f v k' j' = Q k' j' := fun Q f v => by simp only [bc_up, if_neg hk]
        rw [e1, e1, hF k' j' (fun q => hn9 (Or.inr q))]
    · rw [up_v, if_neg (by decide), up_v, if_pos rfl]
      rw [if_neg (by omega)]
    · rw [up_v, if_pos rfl]
  · refine wp_aload_n eX1_remember_25 rfl ?_
    refine gf_X1_15 eX1_remember_26 ?_
    refine wp_iconst eX1_remember_29 ?_
    refine wp_iadd eX1_remember_30 ?_
    refine wp_goto eX1_remember_31 ?_
    rw [f15]
    refine pf_X1_15 eX1_remember_35 ?_
    refine wp_aload_n eX1_remember_38 rfl ?_
    refine wp_aload_n eX1_remember_39 rfl ?_
    refine gf_X1_9 eX1_remember_40 ?_
    refine wp_iconst eX1_remember_43 ?_
    refine wp_iadd eX1_remember_44 ?_
    refine wp_bipush eX1_remember_45 ?_
    rw [up_v, if_neg (by decide), f15]
    refine c_X1_29 eX1_remember_47 (ct_min ?_)
    refine pf_X1_9 eX1_remember_50 ?_
    refine wp_return eX1_remember_53 ?_
    refine k _ (fun k' j' hn9 => ?_) (stEq_up15 hE) ?_ ?_
    · by_cases hk : k' = 15 ∧ j' = 0
      · exact absurd (Or.inl hk) hn9
      · have e1 : ∀ (Q : bc_M) (f v : Int), bc_up Q 15 0 f v k' j' = Q k' j' := fun Q f v => by simp only [bc_up, if_neg hk]
        rw [e1, e1, hF k' j' (fun q => hn9 (Or.inr q))]
    · rw [up_v, if_neg (by decide), up_v, if_pos rfl]
      rw [if_pos (by omega)]
    · rw [up_v, if_pos rfl]
