theorem pg_weigh_rgf {M : bc_M} {j z ni f : Int} (hp : PV M j ni) (hb : ∀ i, 0 ≤ i → i < ni → 0 ≤ M 8 z i ∧ M 8 z i ≤ 99) (hf : 0 ≤ f ∧ f ≤ 99) : ∀ (n : Nat) (i w B : Int), 0 ≤ i → i + n ≤ ni → (-B ≤ w ∧ w ≤ B) → -(B + n * 1980000000000) ≤ pg_weigh M j z f n i w ∧ pg_weigh M j z f n i w ≤ B + n * 1980000000000
  | 0, i, w, B, _, _, h => by simp only [pg_weigh]; omega
  | n + 1, i, w, B, h1, h2, h => by
    simp only [pg_weigh]
    have a1 := pg_ws_rng hp (i := i) (by omega)
    have a3 := bm_abs (a := f) (b := pg_ls M j i) (A := 99) (B := 200000000) (by omega) (pg_ls_rng hp (i := i) (by omega))
    have a2 := bm_abs (a := M 8 z i) (b := pg_ws M j i + f * pg_ls M j i) (A := 99) (B := 20000000000) (by have := hb i h1 (by omega); omega) (by omega)
    have := pg_weigh_rgf hp hb hf n (i + 1) (w + M 8 z i * (pg_ws M j i + f * pg_ls M j i)) (B + 1980000000000) (by omega) (by omega) (by omega)
    omega
def bsg (W C : Int → Int) : Nat → Int → Int → Int → Int → Int
  | 0, _, b, _, _ => b
  | n + 1, s, b, lw, lc => if s = 0 ∨ W s * lc < lw * C s then bsg W C n (s + 1) s (W s) (C s) else bsg W C n (s + 1) b lw lc
def bdk (V : Int → Int) : Nat → Int → Int → Int → Int
  | 0, _, b, _ => b
  | n + 1, x, b, f => if V x < f then bdk V n (x + 1) x (V x) else bdk V n (x + 1) b f
set_option maxHeartbeats 1000000 in
theorem lp_bestSeg {G : bc_G} {post : bc_R → bc_M → Prop} {nd ni ln f : Int} {dk fr pop : Int → Int} {M0 : bc_M} (hsg0 : ∀ sg, 0 ≤ sg → sg ≤ 8 → SV dk fr nd ni sg ln) (hpop : ∀ i, 0 ≤ i → i < ni → 0 ≤ pop i ∧ pop i ≤ 99) (hf : 0 ≤ f ∧ f ≤ 99) {W C : Int → Int} (hW : ∀ s, W s = sp_W dk fr pop nd ni s ln f) (hC : ∀ s, C s = sp_C dk fr nd ni s ln) : ∀ (n : Nat) (s b lw lc : Int) (Mc : bc_M) (y7 : Option Value) (h1 : s + n = 9) (h2 : 0 ≤ s) (h3 : s = 0 ∨ ((-31680000000000 ≤ lw ∧ lw ≤ 31680000000000) ∧ 0 ≤ lc ∧ lc ≤ 1000)) (hF : Fr trP M0 Mc) (e61 : Mc 6 12 1 = ln) (e62 : Mc 6 12 2 = nd) (e63 : Mc 6 12 3 = ni) (e7 : Mc 7 12 = fr) (e8 : Mc 8 12 = pop) (e9 : Mc 9 12 = dk) (k : ∀ M' : bc_M, Fr trP M0 M' → post (.inr (some (vI (bsg W C n s b lw lc)))) M'), bc_W G RX8 cX8_bestSegments 9 (some .int) 9 2 2 35 [some (vR G 1 0), some (vI f), some (vI b), some (vJ lw), none, some (vI lc), some (vI s), y7, none] [] Mc post := by
  intro n
  induction n with
  | zero =>
    intro s b lw lc Mc y7 h1 h2 h3 hF e61 e62 e63 e7 e8 e9 k
    have hni := (hsg0 0 (by omega) (by omega)).2.1
    refine wp_iload eX8_bestSegments_35 rfl ?_
    refine wp_bipush eX8_bestSegments_37 ?_
    refine wp_icmp_gt eX8_bestSegments_39 (fun c39 => ?_) (fun c39 => ?_)
    · simp only [bsg] at k
      refine wp_iload_n eX8_bestSegments_122 rfl ?_
      refine wp_ireturn eX8_bestSegments_123 ?_
      exact k _ hF
    · omega
  | succ n ih =>
    intro s b lw lc Mc y7 h1 h2 h3 hF e61 e62 e63 e7 e8 e9 k
    have hni := (hsg0 0 (by omega) (by omega)).2.1
    refine wp_iload eX8_bestSegments_35 rfl ?_
    refine wp_bipush eX8_bestSegments_37 ?_
    refine wp_icmp_gt eX8_bestSegments_39 (fun c39 => ?_) (fun c39 => ?_)
    · omega
    · refine wp_aload_n eX8_bestSegments_42 rfl ?_
      refine gf_X8_58 eX8_bestSegments_43 ?_
      refine wp_iload eX8_bestSegments_46 rfl ?_
      refine pf_X8_161 eX8_bestSegments_48 ?_
      refine wp_aload_n eX8_bestSegments_51 rfl ?_
      refine gf_X8_62 eX8_bestSegments_52 ?_
      refine wp_aload_n eX8_bestSegments_55 rfl ?_
      refine gf_X8_58 eX8_bestSegments_56 ?_
      refine c_X8_115 eX8_bestSegments_59 (ct_build (j := 1) (z := 12) (by omega) (by omega) (hsg0 s (by omega) (by omega)) (by rw [up_kne (by decide)]; exact e9) (by rw [up_kne (by decide)]; exact e7) (by rw [up_v, if_pos rfl]) (by rw [up_v, if_neg (by decide)]; exact e61) (by rw [up_v, if_neg (by decide)]; exact e62) (by rw [up_v, if_neg (by decide)]; exact e63) (fun M2 hF2 hB2 => ?_))
      have hpv2 := BR.pv (hsg0 s (by omega) (by omega)) hB2
      have r8 : M2 8 12 = pop := by rw [hF2 8 12 (by unfold bpP; omega), up_kne (by decide)]; exact e8
      have r63 : M2 6 12 3 = ni := by rw [hF2 6 12 (by unfold bpP; omega), up_v, if_neg (by decide)]; exact e63
      have r62 : M2 6 12 2 = nd := by rw [hF2 6 12 (by unfold bpP; omega), up_v, if_neg (by decide)]; exact e62
      have r61 : M2 6 12 1 = ln := by rw [hF2 6 12 (by unfold bpP; omega), up_v, if_neg (by decide)]; exact e61
      have r7 : M2 7 12 = fr := by rw [hF2 7 12 (by unfold bpP; omega), up_kne (by decide)]; exact e7
      have r9 : M2 9 12 = dk := by rw [hF2 9 12 (by unfold bpP; omega), up_kne (by decide)]; exact e9
      have hT2 : Fr trP M0 M2 := Fr.tr (Fr.tr hF (Fr.up (Or.inl ⟨Or.inl rfl, rfl⟩))) (hF2.mono (fun k9 j9 h9 => Or.inr h9))
      have hwr := pg_weigh_rgf (z := 12) (f := f) hpv2.1 (fun i a b => by rw [r8]; exact hpop i a b) hf ni.toNat 0 0 0 (by omega) (by omega) (by omega)
      have hw1 : pg_weigh M2 1 12 f ni.toNat 0 0 = W s := by rw [hW]; exact sp_W_of (hsg0 s (by omega) (by omega)) hB2 r8
      have hc1 : M2 17 1 0 = C s := by rw [hC]; exact hB2.1
      have hcr : 0 < M2 17 1 0 ∧ M2 17 1 0 ≤ 1000 := hpv2.1.1
      refine wp_aload_n eX8_bestSegments_62 rfl ?_
      refine gf_X8_62 eX8_bestSegments_63 ?_
      refine wp_aload_n eX8_bestSegments_66 rfl ?_
      refine gf_X8_58 eX8_bestSegments_67 ?_
      refine wp_iload_n eX8_bestSegments_70 rfl ?_
      refine c_X8_224 eX8_bestSegments_71 (ct_weigh (j := 1) (z := 12) (ni := ni) (by omega) hpv2.1 (by omega) r63 (fun i a b => by rw [r8]; exact hpop i a b) hf hpv2.2 ?_)
      rw [hw1] at hwr ⊢
      rw [hc1] at hcr
      simp only [bsg] at k
      refine lst_7 eX8_bestSegments_74 ?_
      refine wp_iload eX8_bestSegments_76 rfl ?_
      refine wp_if_eq eX8_bestSegments_78 (fun c78 => ?_) (fun c78 => ?_)
      · rw [if_pos (Or.inl c78)] at k
        refine wp_iload eX8_bestSegments_101 rfl ?_
        refine ist_2 eX8_bestSegments_103 ?_
        refine wp_lload eX8_bestSegments_104 rfl ?_
        refine lst_3 eX8_bestSegments_106 ?_
        refine wp_aload_n eX8_bestSegments_107 rfl ?_
        refine gf_X8_62 eX8_bestSegments_108 ?_
        refine gf_X8_167 eX8_bestSegments_111 ?_
        rw [hc1]
        refine ist_5 eX8_bestSegments_114 ?_
        refine inc_6 eX8_bestSegments_116 ?_
        refine wp_goto eX8_bestSegments_119 ?_
        exact ih (s + 1) _ _ _ M2 _ (by omega) (by omega) (Or.inr (by omega)) hT2 r61 r62 r63 r7 r8 r9 k
      · have hbb := h3.resolve_left c78
        refine wp_lload eX8_bestSegments_81 rfl ?_
        refine wp_iload eX8_bestSegments_83 rfl ?_
        refine wp_i2l eX8_bestSegments_85 ?_
        refine wp_lmul eX8_bestSegments_86 ?_
        refine wp_lload_n eX8_bestSegments_87 rfl ?_
        refine wp_aload_n eX8_bestSegments_88 rfl ?_
        refine gf_X8_62 eX8_bestSegments_89 ?_
        refine gf_X8_167 eX8_bestSegments_92 ?_
        rw [hc1]
        refine wp_i2l eX8_bestSegments_95 ?_
        refine wp_lmul eX8_bestSegments_96 ?_
        have b1 := bm_abs (a := W s) (b := lc) (A := 31680000000000) (B := 1000) (by omega) (by omega)
        have b2 := bm_abs (a := lw) (b := C s) (A := 31680000000000) (B := 1000) (by omega) (by omega)
        refine wp_lcmp eX8_bestSegments_97 ?_
        refine wp_if_ge eX8_bestSegments_98 (fun c98 => ?_) (fun c98 => ?_) (by unfold bx_cmp; split <;> first | omega | (split <;> omega))
        · rw [bx_ge] at c98
          rw [if_neg (by omega)] at k
          refine inc_6 eX8_bestSegments_116 ?_
          refine wp_goto eX8_bestSegments_119 ?_
          exact ih (s + 1) _ _ _ M2 _ (by omega) (by omega) (Or.inr (by omega)) hT2 r61 r62 r63 r7 r8 r9 k
        · rw [bx_ge] at c98
          rw [if_pos (by omega)] at k
          refine wp_iload eX8_bestSegments_101 rfl ?_
          refine ist_2 eX8_bestSegments_103 ?_
          refine wp_lload eX8_bestSegments_104 rfl ?_
          refine lst_3 eX8_bestSegments_106 ?_
          refine wp_aload_n eX8_bestSegments_107 rfl ?_
          refine gf_X8_62 eX8_bestSegments_108 ?_
          refine gf_X8_167 eX8_bestSegments_111 ?_
          rw [hc1]
          refine ist_5 eX8_bestSegments_114 ?_
          refine inc_6 eX8_bestSegments_116 ?_
          refine wp_goto eX8_bestSegments_119 ?_
          exact ih (s + 1) _ _ _ M2 _ (by omega) (by omega) (Or.inr (by omega)) hT2 r61 r62 r63 r7 r8 r9 k
theorem ct_bestSegments {G : bc_G} {M : bc_M} {post : bc_R → bc_M → Prop} {n : Int} {f : Int} (h_f : -2147483648 ≤ f ∧ f < 2147483648) (hl : M 1 0 3 = 0 ∨ M 1 0 3 = 1) (hI : M 1 0 3 = 1 → LI M n) (k1 : M 1 0 3 = 0 → post (.inl "java/lang/IllegalStateException") M) (k2 : M 1 0 3 = 1 → (f < 0 ∨ 99 < f) → post (.inl "java/lang/IllegalArgumentException") M) (k3 : M 1 0 3 = 1 → ¬ ((f < 0 ∨ 99 < f)) → ∀ M' : bc_M, Fr trP M M' → post (.inr (some (vI (bsg (fun s => sp_W (M 9 1) (M 7 1) (M 8 1) (M 6 1 2) (M 6 1 3) s (M 6 1 1) f) (fun s => sp_C (M 9 1) (M 7 1) (M 6 1 2) (M 6 1 3) s (M 6 1 1)) 9 0 0 0 1)))) M') : bc_Call G yX8_bestSegments cX8_bestSegments 9 (some .int) 9 2 [vR G 1 0, vI f] M post := by
  refine bc_enter (L := [some (vR G 1 0), some (vI f), none, none, none, none, none, none, none]) (by decide) rfl rfl ?_
  refine wp_aload_n eX8_bestSegments_0 rfl ?_
  refine cx_X8_125 eX8_bestSegments_1 (ct_needCarousel k1 (fun hc0 => ?_))
  have hL1 : M 1 0 3 = 1 := by omega
  obtain ⟨hsi, hbr, hhn, hhr, hri⟩ := hI hL1
  have hsm := hsi.1
  have hni := hsm.1.2.1
  have hnd := hsm.1.1
  have hls := hsi.2.2.1
  have hpv := BR.pv hsm.1 hbr
  refine wp_iload_n eX8_bestSegments_4 rfl ?_
  refine wp_iconst eX8_bestSegments_5 ?_
  refine wp_bipush eX8_bestSegments_6 ?_
  refine cx_X8_97 eX8_bestSegments_8 (ct_needRange (fun h => k2 hL1 (by omega)) (fun g8a g8b => ?_))
  refine wp_aload_n eX8_bestSegments_11 rfl ?_
  refine gf_X8_58 eX8_bestSegments_12 ?_
  refine wp_aload_n eX8_bestSegments_15 rfl ?_
  refine gf_X8_38 eX8_bestSegments_16 ?_
  refine gf_X8_112 eX8_bestSegments_19 ?_
  refine c_X8_231 eX8_bestSegments_22 (ct_setCopy (z := 12) (y := 1) (by omega) (by omega) (by omega) (fun M1 hF1 q7 q8 q9 q10 q6 => ?_))
  have t60 := q6 0 (by decide) (by decide)
  have t61 := q6 1 (by decide) (by decide)
  have t62 := q6 2 (by decide) (by decide)
  have t63 := q6 3 (by decide) (by decide)
  have hsm1 : SM M1 12 := by
    unfold SM
    rw [q7, q8, q9, q10, t60, t61, t62, t63]
    exact hsm
  have hT1 : Fr trP M M1 := hF1.mono (fun k9 j9 h9 => Or.inl h9)
  refine wp_iconst eX8_bestSegments_25 ?_
  refine ist_2 eX8_bestSegments_26 ?_
  refine wp_lconst0 eX8_bestSegments_27 ?_
  refine lst_3 eX8_bestSegments_28 ?_
  refine wp_iconst eX8_bestSegments_29 ?_
  refine ist_5 eX8_bestSegments_30 ?_
  refine wp_iconst eX8_bestSegments_32 ?_
  refine ist_6 eX8_bestSegments_33 ?_
  refine lp_bestSeg (fun sg a b => hsm.1.ix ⟨a, b⟩ hsm.1.2.2.2.1) (fun i a b => (hsm.2 i a b).1) (by omega) (fun _ => rfl) (fun _ => rfl) 9 0 0 0 1 M1 none (by omega) (by omega) (Or.inl rfl) hT1 t61 t62 t63 q7 q8 q9 (k3 hL1 (by omega))
theorem u_u {g : Int → Int} {i a b : Int} : bc_u (bc_u g i a) i b = bc_u g i b := by
  funext x
  by_cases h : x = i
  · subst h; rw [u_at, u_at]
  · rw [u_ne h, u_ne h, u_ne h]
set_option maxHeartbeats 1000000 in
theorem lp_bestDisk {G : bc_G} {post : bc_R → bc_M → Prop} {nd ni sg ln i : Int} {dk fr bnd : Int → Int} {M0 : bc_M} (hV : SV dk fr nd ni sg ln) (hbn : ∀ i, 0 ≤ i → i < ni → 0 ≤ bnd i ∧ bnd i ≤ 999) (hi : 0 ≤ i ∧ i < ni) {V : Int → Int} (hVV : ∀ x, V x = bs_cnt (sp_V (bc_u dk i x) fr bnd nd ni sg ln) 16) : ∀ (n : Nat) (x b f : Int) (Mc : bc_M) (y : Option Value) (h1 : x + n = nd) (h2 : 0 ≤ x) (h3 : 0 ≤ f ∧ f ≤ 17) (hF : Fr trP M0 Mc) (e60 : Mc 6 12 0 = sg) (e61 : Mc 6 12 1 = ln) (e62 : Mc 6 12 2 = nd) (e63 : Mc 6 12 3 = ni) (e7 : Mc 7 12 = fr) (e10 : Mc 10 12 = bnd) (e9 : ∀ x9, bc_u (Mc 9 12) i x9 = bc_u dk i x9) (k : ∀ M' : bc_M, Fr trP M0 M' → post (.inr (some (vI (bdk V n x b f)))) M'), bc_W G RX8 cX8_bestDisk 6 (some .int) 9 2 2 31 [some (vR G 1 0), some (vI i), some (vI b), some (vI f), some (vI x), y] [] Mc post := by
  intro n
  induction n with
  | zero =>
    intro x b f Mc y h1 h2 h3 hF e60 e61 e62 e63 e7 e10 e9 k
    have hni := hV.2.1
    have hnd := hV.1
    refine wp_iload eX8_bestDisk_31 rfl ?_
    refine wp_aload_n eX8_bestDisk_33 rfl ?_
    refine gf_X8_58 eX8_bestDisk_34 ?_
    refine gf_X8_177 eX8_bestDisk_37 ?_
    rw [e62]
    refine wp_icmp_ge eX8_bestDisk_40 (fun c40 => ?_) (fun c40 => ?_)
    · simp only [bdk] at k
      refine wp_iload_n eX8_bestDisk_99 rfl ?_
      refine wp_ireturn eX8_bestDisk_100 ?_
      exact k _ hF
    · omega
  | succ n ih =>
    intro x b f Mc y h1 h2 h3 hF e60 e61 e62 e63 e7 e10 e9 k
    have hni := hV.2.1
    have hnd := hV.1
    refine wp_iload eX8_bestDisk_31 rfl ?_
    refine wp_aload_n eX8_bestDisk_33 rfl ?_
    refine gf_X8_58 eX8_bestDisk_34 ?_
    refine gf_X8_177 eX8_bestDisk_37 ?_
    rw [e62]
    refine wp_icmp_ge eX8_bestDisk_40 (fun c40 => ?_) (fun c40 => ?_)
    · omega
    · refine wp_aload_n eX8_bestDisk_43 rfl ?_
      refine gf_X8_58 eX8_bestDisk_44 ?_
      refine gf_X8_170 eX8_bestDisk_47 ?_
      refine wp_iload_n eX8_bestDisk_50 rfl ?_
      refine wp_iload eX8_bestDisk_51 rfl ?_
      refine as_9 eX8_bestDisk_53 ?_
      refine wp_aload_n eX8_bestDisk_54 rfl ?_
      refine gf_X8_62 eX8_bestDisk_55 ?_
      refine wp_aload_n eX8_bestDisk_58 rfl ?_
      refine gf_X8_58 eX8_bestDisk_59 ?_
      refine c_X8_115 eX8_bestDisk_62 (ct_build (j := 1) (z := 12) (dk := bc_u dk i x) (by omega) (by omega) (hV.dk (by omega)) (by rw [up_at]; exact e9 x) (by rw [up_kne (by decide)]; exact e7) (by rw [up_kne (by decide)]; exact e60) (by rw [up_kne (by decide)]; exact e61) (by rw [up_kne (by decide)]; exact e62) (by rw [up_kne (by decide)]; exact e63) (fun M2 hF2 hB2 => ?_))
      have hV2 : SV (bc_u dk i x) fr nd ni sg ln := hV.dk (by omega)
      have hpv2 := BR.pv hV2 hB2
      have r6 : M2 6 12 = Mc 6 12 := by rw [hF2 6 12 (by unfold bpP; omega), up_kne (by decide)]
      have r7 : M2 7 12 = fr := by rw [hF2 7 12 (by unfold bpP; omega), up_kne (by decide)]; exact e7
      have r10 : M2 10 12 = bnd := by rw [hF2 10 12 (by unfold bpP; omega), up_kne (by decide)]; exact e10
      have r9 : ∀ x9, bc_u (M2 9 12) i x9 = bc_u dk i x9 := fun x9 => by rw [hF2 9 12 (by unfold bpP; omega), up_at, ← e9 x9, u_u]
      have hT2 : Fr trP M0 M2 := Fr.tr (Fr.tr hF (Fr.up (Or.inl ⟨by omega, rfl⟩))) (hF2.mono (fun k9 j9 h9 => Or.inr h9))
      have hvr := sp_V_rng (bnd := bnd) hV2
      refine wp_aload_n eX8_bestDisk_65 rfl ?_
      refine gf_X8_62 eX8_bestDisk_66 ?_
      refine wp_aload_n eX8_bestDisk_69 rfl ?_
      refine gf_X8_58 eX8_bestDisk_70 ?_
      refine c_X8_202 eX8_bestDisk_73 (ct_violators (j := 1) (z := 12) (ni := ni) (by omega) hpv2.1 (by omega) (by rw [r6]; exact e63) (fun i a b => by rw [r10]; exact hbn i a b) ?_)
      rw [sp_V_of hV2 hB2 r10]
      refine c_X8_267 eX8_bestDisk_76 (ct_bitCount ?_)
      have hbc := bs_cnt_rng (sp_V (bc_u dk i x) fr bnd nd ni sg ln) 16
      rw [← hVV x] at hbc ⊢
      simp only [bdk] at k
      refine ist_5 eX8_bestDisk_79 ?_
      refine wp_iload eX8_bestDisk_81 rfl ?_
      refine wp_iload_n eX8_bestDisk_83 rfl ?_
      refine wp_icmp_ge eX8_bestDisk_84 (fun c84 => ?_) (fun c84 => ?_)
      · rw [if_neg (by omega)] at k
        refine inc_4 eX8_bestDisk_93 ?_
        refine wp_goto eX8_bestDisk_96 ?_
        exact ih (x + 1) _ _ M2 _ (by omega) (by omega) (by omega) hT2 (by rw [r6]; exact e60) (by rw [r6]; exact e61) (by rw [r6]; exact e62) (by rw [r6]; exact e63) r7 r10 r9 k
      · rw [if_pos (by omega)] at k
        refine wp_iload eX8_bestDisk_87 rfl ?_
        refine ist_3 eX8_bestDisk_89 ?_
        refine wp_iload eX8_bestDisk_90 rfl ?_
        refine ist_2 eX8_bestDisk_92 ?_
        refine inc_4 eX8_bestDisk_93 ?_
        refine wp_goto eX8_bestDisk_96 ?_
        exact ih (x + 1) _ _ M2 _ (by omega) (by omega) (by omega) hT2 (by rw [r6]; exact e60) (by rw [r6]; exact e61) (by rw [r6]; exact e62) (by rw [r6]; exact e63) r7 r10 r9 k
theorem ct_bestDisk {G : bc_G} {M : bc_M} {post : bc_R → bc_M → Prop} {n : Int} {i : Int} (h_i : -2147483648 ≤ i ∧ i < 2147483648) (hl : M 1 0 3 = 0 ∨ M 1 0 3 = 1) (hI : M 1 0 3 = 1 → LI M n) (k1 : M 1 0 3 = 0 → post (.inl "java/lang/IllegalStateException") M) (k2 : M 1 0 3 = 1 → (i < 0 ∨ M 6 1 3 ≤ i) → post (.inl "java/lang/IllegalArgumentException") M) (k3 : M 1 0 3 = 1 → ¬ ((i < 0 ∨ M 6 1 3 ≤ i)) → ∀ M' : bc_M, Fr trP M M' → post (.inr (some (vI (bdk (fun x => bs_cnt (sp_V (bc_u (M 9 1) i x) (M 7 1) (M 10 1) (M 6 1 2) (M 6 1 3) (M 6 1 0) (M 6 1 1)) 16) (M 6 1 2).toNat 0 0 17)))) M') : bc_Call G yX8_bestDisk cX8_bestDisk 6 (some .int) 9 2 [vR G 1 0, vI i] M post := by
  refine bc_enter (L := [some (vR G 1 0), some (vI i), none, none, none, none]) (by decide) rfl rfl ?_
  refine wp_aload_n eX8_bestDisk_0 rfl ?_
  refine cx_X8_125 eX8_bestDisk_1 (ct_needCarousel k1 (fun hc0 => ?_))
  have hL1 : M 1 0 3 = 1 := by omega
  obtain ⟨hsi, hbr, hhn, hhr, hri⟩ := hI hL1
  have hsm := hsi.1
  have hni := hsm.1.2.1
  have hnd := hsm.1.1
  have hls := hsi.2.2.1
  have hpv := BR.pv hsm.1 hbr
  refine wp_aload_n eX8_bestDisk_4 rfl ?_
  refine wp_iload_n eX8_bestDisk_5 rfl ?_
  refine cx_X8_131 eX8_bestDisk_6 (ct_needItem (fun h => k2 hL1 (by omega)) (fun g6a g6b => ?_))
  refine wp_aload_n eX8_bestDisk_9 rfl ?_
  refine gf_X8_58 eX8_bestDisk_10 ?_
  refine wp_aload_n eX8_bestDisk_13 rfl ?_
  refine gf_X8_38 eX8_bestDisk_14 ?_
  refine gf_X8_112 eX8_bestDisk_17 ?_
  refine c_X8_231 eX8_bestDisk_20 (ct_setCopy (z := 12) (y := 1) (by omega) (by omega) (by omega) (fun M1 hF1 q7 q8 q9 q10 q6 => ?_))
  have t60 := q6 0 (by decide) (by decide)
  have t61 := q6 1 (by decide) (by decide)
  have t62 := q6 2 (by decide) (by decide)
  have t63 := q6 3 (by decide) (by decide)
  have hsm1 : SM M1 12 := by
    unfold SM
    rw [q7, q8, q9, q10, t60, t61, t62, t63]
    exact hsm
  have hT1 : Fr trP M M1 := hF1.mono (fun k9 j9 h9 => Or.inl h9)
  refine wp_iconst eX8_bestDisk_23 ?_
  refine ist_2 eX8_bestDisk_24 ?_
  refine wp_bipush eX8_bestDisk_25 ?_
  refine ist_3 eX8_bestDisk_27 ?_
  refine wp_iconst eX8_bestDisk_28 ?_
  refine ist_4 eX8_bestDisk_29 ?_
  refine lp_bestDisk (i := i) hsm.1 (fun i a b => (hsm.2 i a b).2) (by omega) (fun _ => rfl) (M 6 1 2).toNat 0 0 17 M1 none (by omega) (by omega) (by omega) hT1 t60 t61 t62 t63 q7 q10 (fun x9 => by rw [q9]) (k3 hL1 (by omega))
