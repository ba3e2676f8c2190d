def dvP : Nat → Int → Prop := fun k' j' => trP k' j' ∨ ((k' = 25 ∨ k' = 26 ∨ k' = 27 ∨ k' = 28 ∨ k' = 29) ∧ j' = 0)
/-- what stands when the divisions were tried -/
def DV (M M' : bc_M) (kk : Int) : Prop := Fr dvP M M' ∧ M' 25 0 3 = (fbR M 1 kk).1 ∧ M' 28 0 = (fbR M 1 kk).2.2 ∧ M' 26 0 = rk_all (M 8 1) (M 6 1 3).toNat 0 (M 26 0) ∧ M' 27 0 = rk_all (M 7 1) (M 6 1 2).toNat 0 (M 27 0)
theorem fb_sz {W C : (Int → Int) → Int} {it dd : Int → Int} {ni k : Int} (hk : 1 ≤ k ∧ k ≤ 4) : ∀ (f : Nat) (n : Int) (g dk : Int → Int) (bw bc : Int) (bz : Int → Int), SZ k ni g → (n = 0 → 0 < f) → (n ≠ 0 → SZ k ni bz) → 0 ≤ n → SZ k ni (fb W C it dd ni k f n g dk bw bc bz).2.2
  | 0, n, g, dk, bw, bc, bz, hg, h0, hb, hn => by
    simp only [fb]
    exact hb (fun q => by have := h0 q; omega)
  | f + 1, n, g, dk, bw, bc, bz, hg, h0, hb, hn => by
    simp only [fb]
    have hc : SZ k ni (if n = 0 ∨ W (as_out it dd g ni k.toNat 0 0 dk 0).1 * bc < bw * C (as_out it dd g ni k.toNat 0 0 dk 0).1 then g else bz) := by
      split
      · exact hg
      · rename_i h; exact hb (fun q => h (Or.inl q))
    split
    · exact fb_sz hk f (n + 1) _ _ _ _ _ (sz_next_ok hk hg) (fun q => by omega) (fun _ => hc) (by omega)
    · exact hc
theorem ct_divideInThought {G : bc_G} {M : bc_M} {post : bc_R → bc_M → Prop} {n kk : Int} (hsi : SI M 1 n) (hk : 1 ≤ kk ∧ kk ≤ M 6 1 2) (hki : kk ≤ M 6 1 3) (k : ∀ M' : bc_M, DV M M' kk → post (.inr none) M') : bc_Call G yX8_divideInThought cX8_divideInThought 2 none 8 0 [vR G 1 0, vI kk] M post := by
  have hsm := hsi.1
  refine bc_enter (L := [some (vR G 1 0), some (vI kk)]) (by decide) rfl rfl ?_
  refine wp_aload_n eX8_divideInThought_0 rfl ?_
  refine gf_X8_58 eX8_divideInThought_1 ?_
  refine wp_aload_n eX8_divideInThought_4 rfl ?_
  refine gf_X8_38 eX8_divideInThought_5 ?_
  refine gf_X8_112 eX8_divideInThought_8 ?_
  refine c_X8_231 eX8_divideInThought_11 (ct_setCopy (z := 12) (y := 1) (by omega) (by omega) (by omega) (fun M1 hF1 q7 q8 q9 q10 q6 => ?_))
  have t60 := q6 0 (by decide) (by decide)
  have t61 := q6 1 (by decide) (by decide)
  have t62 := q6 2 (by decide) (by decide)
  have t63 := q6 3 (by decide) (by decide)
  have hsm1 : SM M1 12 := by
    unfold SM
    rw [q7, q8, q9, q10, t60, t61, t62, t63]
    exact hsm
  have hT1 : Fr trP M M1 := hF1.mono (fun k9 j9 h9 => Or.inl h9)
  refine wp_aload_n eX8_divideInThought_14 rfl ?_
  refine gf_X8_75 eX8_divideInThought_15 ?_
  refine wp_iload_n eX8_divideInThought_18 rfl ?_
  refine wp_aload_n eX8_divideInThought_19 rfl ?_
  refine gf_X8_58 eX8_divideInThought_20 ?_
  refine wp_aload_n eX8_divideInThought_23 rfl ?_
  refine gf_X8_62 eX8_divideInThought_24 ?_
  refine c_X8_263 eX8_divideInThought_27 (ct_findBest (z := 12) (j := 1) (by omega) (by omega) hsm1 (by rw [t62]; omega) (by rw [t63]; omega) (by rw [q9]; exact hsi.2.1) (fun M2 hF2 u3 u4 u28 => ?_))
  have c26 : M1 26 0 = M 26 0 := hF1 26 0 (by omega)
  have c27 : M1 27 0 = M 27 0 := hF1 27 0 (by omega)
  have c29 : M1 29 0 = M 29 0 := hF1 29 0 (by omega)
  have c28 : M1 28 0 = M 28 0 := hF1 28 0 (by omega)
  have c25 : M1 25 0 = M 25 0 := hF1 25 0 (by omega)
  have hfb : fbR M1 12 kk = fbR M 1 kk := by
    unfold fbR
    rw [q7, q8, q9, t60, t61, t62, t63, c25, c26, c27, c28, c29]
  rw [hfb] at u3 u4 u28
  refine wp_return eX8_divideInThought_30 ?_
  refine k M2 ⟨?_, u3, u28, ?_, ?_⟩
  · refine Fr.tr (hT1.mono (fun k9 j9 h9 => Or.inl h9)) (Fr.tr (Fr.tr ?_ (row_fr.mono (fun k9 j9 h9 => Or.inr ⟨by have := h9.1; omega, h9.2⟩))) (hF2.mono (fun k9 j9 h9 => ?_)))
    · unfold rkM
      exact Fr.tr (row_fr.mono (fun k9 j9 h9 => Or.inr ⟨by have := h9.1; omega, h9.2⟩)) (row_fr.mono (fun k9 j9 h9 => Or.inr ⟨by have := h9.1; omega, h9.2⟩))
    · rcases h9 with q | q | q
      · exact Or.inl (Or.inl ⟨by omega, q.2⟩)
      · exact Or.inl (Or.inr q)
      · exact Or.inr ⟨by omega, q.2⟩
  · rw [hF2 26 0 (by unfold fbP bpP; omega), row_kne (by decide)]
    unfold rkM
    rw [row_kne (by decide), row_at, q8, t63, c26]
  · rw [hF2 27 0 (by unfold fbP bpP; omega), row_kne (by decide)]
    unfold rkM
    rw [row_at, q7, t62, c27]
theorem fbR_sz {M : bc_M} {n kk : Int} (h : SI M 1 n) (hk : 1 ≤ kk ∧ kk ≤ M 6 1 2) (hki : kk ≤ M 6 1 3) : SZ kk (M 6 1 3) (fbR M 1 kk).2.2 := by
  have hnd := h.1.1.1
  unfold fbR
  exact fb_sz (by omega) _ _ _ _ _ _ _ (sz_first_ok (by omega) (by omega)) (fun _ => by decide) (fun q => absurd rfl q) (by omega)
theorem ct_tierSize {G : bc_G} {M : bc_M} {post : bc_R → bc_M → Prop} {n : Int} {q t : Int} (h_q : -2147483648 ≤ q ∧ q < 2147483648) (h_t : -2147483648 ≤ t ∧ t < 2147483648) (hl : M 1 0 3 = 0 ∨ M 1 0 3 = 1) (hI : M 1 0 3 = 1 → LI M n) (k1 : M 1 0 3 = 0 → post (.inl "java/lang/IllegalStateException") M) (k2 : M 1 0 3 = 1 → (q < 1 ∨ M 6 1 2 < q) ∨ (t < 0 ∨ q - 1 < t) → post (.inl "java/lang/IllegalArgumentException") M) (k3 : M 1 0 3 = 1 → ¬ ((q < 1 ∨ M 6 1 2 < q) ∨ (t < 0 ∨ q - 1 < t)) → ∀ M' : bc_M, (¬ M 6 1 3 < q → DV M M' q) → (M 6 1 3 < q → M' = M) → post (.inr (some (vI (if M 6 1 3 < q then -2 else (fbR M 1 q).2.2 t)))) M') : bc_Call G yX8_tierSize cX8_tierSize 3 (some .int) 9 3 [vR G 1 0, vI q, vI t] M post := by
  refine bc_enter (L := [some (vR G 1 0), some (vI q), some (vI t)]) (by decide) rfl rfl ?_
  refine wp_aload_n eX8_tierSize_0 rfl ?_
  refine cx_X8_125 eX8_tierSize_1 (ct_needCarousel k1 (fun hc0 => ?_))
  have hL1 : M 1 0 3 = 1 := by omega
  obtain ⟨hsi, hbr, hhn, hhr, hri⟩ := hI hL1
  have hsm := hsi.1
  have hni := hsm.1.2.1
  have hnd := hsm.1.1
  have hls := hsi.2.2.1
  have hpv := BR.pv hsm.1 hbr
  refine wp_iload_n eX8_tierSize_4 rfl ?_
  refine wp_iconst eX8_tierSize_5 ?_
  refine wp_aload_n eX8_tierSize_6 rfl ?_
  refine gf_X8_38 eX8_tierSize_7 ?_
  refine gf_X8_112 eX8_tierSize_10 ?_
  refine gf_X8_177 eX8_tierSize_13 ?_
  refine cx_X8_97 eX8_tierSize_16 (ct_needRange (fun h => k2 hL1 (by omega)) (fun g16a g16b => ?_))
  refine wp_iload_n eX8_tierSize_19 rfl ?_
  refine wp_iconst eX8_tierSize_20 ?_
  refine wp_iload_n eX8_tierSize_21 rfl ?_
  refine wp_iconst eX8_tierSize_22 ?_
  refine wp_isub eX8_tierSize_23 ?_
  refine cx_X8_97 eX8_tierSize_24 (ct_needRange (fun h => k2 hL1 (by omega)) (fun g24a g24b => ?_))
  refine wp_aload_n eX8_tierSize_27 rfl ?_
  refine gf_X8_38 eX8_tierSize_28 ?_
  refine gf_X8_112 eX8_tierSize_31 ?_
  refine gf_X8_122 eX8_tierSize_34 ?_
  refine wp_iload_n eX8_tierSize_37 rfl ?_
  refine wp_icmp_ge eX8_tierSize_38 (fun c38 => ?_) (fun c38 => ?_)
  · refine wp_aload_n eX8_tierSize_44 rfl ?_
    refine wp_iload_n eX8_tierSize_45 rfl ?_
    refine c_X8_180 eX8_tierSize_46 (ct_divideInThought (kk := q) hsi (by omega) (by omega) (fun M1 hD => ?_))
    have e28 := hD.2.2.1
    refine wp_aload_n eX8_tierSize_49 rfl ?_
    refine gf_X8_75 eX8_tierSize_50 ?_
    refine gf_X8_254 eX8_tierSize_53 ?_
    refine wp_iload_n eX8_tierSize_56 rfl ?_
    refine al_28 eX8_tierSize_57 ?_
    refine wp_ireturn eX8_tierSize_58 ?_
    rw [e28]
    have k4 := k3 hL1 (by omega) M1 (fun _ => hD) (fun h9 => absurd h9 (by omega))
    rw [if_neg (by omega)] at k4
    exact k4
  · refine wp_bipush eX8_tierSize_41 ?_
    refine wp_ireturn eX8_tierSize_43 ?_
    have k4 := k3 hL1 (by omega) M (fun h9 => absurd h9 (by omega)) (fun _ => rfl)
    rw [if_pos (by omega)] at k4
    exact k4
theorem ct_tierWeight {G : bc_G} {M : bc_M} {post : bc_R → bc_M → Prop} {n : Int} {q : Int} (h_q : -2147483648 ≤ q ∧ q < 2147483648) (hl : M 1 0 3 = 0 ∨ M 1 0 3 = 1) (hI : M 1 0 3 = 1 → LI M n) (k1 : M 1 0 3 = 0 → post (.inl "java/lang/IllegalStateException") M) (k2 : M 1 0 3 = 1 → (q < 1 ∨ M 6 1 2 < q) → post (.inl "java/lang/IllegalArgumentException") M) (k3 : M 1 0 3 = 1 → ¬ ((q < 1 ∨ M 6 1 2 < q)) → ∀ M' : bc_M, (¬ M 6 1 3 < q → DV M M' q) → (M 6 1 3 < q → M' = M) → post (.inr (some (vJ (if M 6 1 3 < q then -2 else (fbR M 1 q).1)))) M') : bc_Call G yX8_tierWeight cX8_tierWeight 2 (some .long) 9 2 [vR G 1 0, vI q] M post := by
  refine bc_enter (L := [some (vR G 1 0), some (vI q)]) (by decide) rfl rfl ?_
  refine wp_aload_n eX8_tierWeight_0 rfl ?_
  refine cx_X8_125 eX8_tierWeight_1 (ct_needCarousel k1 (fun hc0 => ?_))
  have hL1 : M 1 0 3 = 1 := by omega
  obtain ⟨hsi, hbr, hhn, hhr, hri⟩ := hI hL1
  have hsm := hsi.1
  have hni := hsm.1.2.1
  have hnd := hsm.1.1
  have hls := hsi.2.2.1
  have hpv := BR.pv hsm.1 hbr
  refine wp_iload_n eX8_tierWeight_4 rfl ?_
  refine wp_iconst eX8_tierWeight_5 ?_
  refine wp_aload_n eX8_tierWeight_6 rfl ?_
  refine gf_X8_38 eX8_tierWeight_7 ?_
  refine gf_X8_112 eX8_tierWeight_10 ?_
  refine gf_X8_177 eX8_tierWeight_13 ?_
  refine cx_X8_97 eX8_tierWeight_16 (ct_needRange (fun h => k2 hL1 (by omega)) (fun g16a g16b => ?_))
  refine wp_aload_n eX8_tierWeight_19 rfl ?_
  refine gf_X8_38 eX8_tierWeight_20 ?_
  refine gf_X8_112 eX8_tierWeight_23 ?_
  refine gf_X8_122 eX8_tierWeight_26 ?_
  refine wp_iload_n eX8_tierWeight_29 rfl ?_
  refine wp_icmp_ge eX8_tierWeight_30 (fun c30 => ?_) (fun c30 => ?_)
  · refine wp_aload_n eX8_tierWeight_37 rfl ?_
    refine wp_iload_n eX8_tierWeight_38 rfl ?_
    refine c_X8_180 eX8_tierWeight_39 (ct_divideInThought (kk := q) hsi (by omega) (by omega) (fun M1 hD => ?_))
    have e25 := hD.2.1
    refine wp_aload_n eX8_tierWeight_42 rfl ?_
    refine gf_X8_75 eX8_tierWeight_43 ?_
    refine gf_X8_259 eX8_tierWeight_46 ?_
    refine wp_lreturn eX8_tierWeight_49 ?_
    rw [e25]
    have k4 := k3 hL1 (by omega) M1 (fun _ => hD) (fun h9 => absurd h9 (by omega))
    rw [if_neg (by omega)] at k4
    exact k4
  · refine wp_ldc2 (n := -2) eX8_tierWeight_33 kc_X8_257 (by decide) ?_
    refine wp_lreturn eX8_tierWeight_36 ?_
    have k4 := k3 hL1 (by omega) M (fun h9 => absurd h9 (by omega)) (fun _ => rfl)
    rw [if_pos (by omega)] at k4
    exact k4
/-- disks, and how many items changed theirs -/
def atR (M : bc_M) (q : Int) : (Int → Int) × Int := (as_out (rk_all (M 8 1) (M 6 1 3).toNat 0 (M 26 0)) (rk_all (M 7 1) (M 6 1 2).toNat 0 (M 27 0)) (fbR M 1 q).2.2 (M 6 1 3) q.toNat 0 0 (M 9 1) 0)
set_option maxHeartbeats 1000000 in
theorem ct_applyTiers {G : bc_G} {M : bc_M} {post : bc_R → bc_M → Prop} {n : Int} {q : Int} (h_q : -2147483648 ≤ q ∧ q < 2147483648) (hl : M 1 0 3 = 0 ∨ M 1 0 3 = 1) (hI : M 1 0 3 = 1 → LI M n) (k1 : M 1 0 3 = 0 → post (.inl "java/lang/IllegalStateException") M) (k2 : M 1 0 3 = 1 → (q < 1 ∨ M 6 1 2 < q) → post (.inl "java/lang/IllegalArgumentException") M) (k3a : M 1 0 3 = 1 → ¬ (q < 1 ∨ M 6 1 2 < q) → M 6 1 3 < q → post (.inr (some (vI (-2)))) M) (k3b : M 1 0 3 = 1 → ¬ (q < 1 ∨ M 6 1 2 < q) → ¬ M 6 1 3 < q → ∀ M1 M2 M3 : bc_M, DV M M1 q → LI M1 n → REM M1 M2 → LI M2 n → Fr (bpP 0) (bc_row M2 9 1 (atR M q).1) M3 → SV (atR M q).1 (M2 7 1) (M2 6 1 2) (M2 6 1 3) (M2 6 1 0) (M2 6 1 1) → BR M3 0 (atR M q).1 (M2 7 1) (M2 6 1 2) (M2 6 1 3) (M2 6 1 0) (M2 6 1 1) → post (.inr (some (vI ((atR M q).2)))) M3) : bc_Call G yX8_applyTiers cX8_applyTiers 3 (some .int) 9 2 [vR G 1 0, vI q] M post := by
  refine bc_enter (L := [some (vR G 1 0), some (vI q), none]) (by decide) rfl rfl ?_
  refine wp_aload_n eX8_applyTiers_0 rfl ?_
  refine cx_X8_125 eX8_applyTiers_1 (ct_needCarousel k1 (fun hc0 => ?_))
  have hL1 : M 1 0 3 = 1 := by omega
  obtain ⟨hsi, hbr, hhn, hhr, hri⟩ := hI hL1
  have hsm := hsi.1
  have hni := hsm.1.2.1
  have hnd := hsm.1.1
  have hls := hsi.2.2.1
  have hpv := BR.pv hsm.1 hbr
  refine wp_iload_n eX8_applyTiers_4 rfl ?_
  refine wp_iconst eX8_applyTiers_5 ?_
  refine wp_aload_n eX8_applyTiers_6 rfl ?_
  refine gf_X8_38 eX8_applyTiers_7 ?_
  refine gf_X8_112 eX8_applyTiers_10 ?_
  refine gf_X8_177 eX8_applyTiers_13 ?_
  refine cx_X8_97 eX8_applyTiers_16 (ct_needRange (fun h => k2 hL1 (by omega)) (fun g16a g16b => ?_))
  refine wp_aload_n eX8_applyTiers_19 rfl ?_
  refine gf_X8_38 eX8_applyTiers_20 ?_
  refine gf_X8_112 eX8_applyTiers_23 ?_
  refine gf_X8_122 eX8_applyTiers_26 ?_
  refine wp_iload_n eX8_applyTiers_29 rfl ?_
  refine wp_icmp_ge eX8_applyTiers_30 (fun c30 => ?_) (fun c30 => ?_)
  · refine wp_aload_n eX8_applyTiers_36 rfl ?_
    refine wp_iload_n eX8_applyTiers_37 rfl ?_
    refine c_X8_180 eX8_applyTiers_38 (ct_divideInThought (kk := q) hsi (by omega) (by omega) (fun M1 hD => ?_))
    have hL5 : LI M1 n := (hI hL1).cong (fun k9 j9 h9 => hD.1 k9 j9 (by unfold dvP trP bpP; omega))
    have f6 : M1 6 1 = M 6 1 := hD.1 6 1 (by unfold dvP trP bpP; omega)
    refine wp_aload_n eX8_applyTiers_41 rfl ?_
    refine gf_X8_44 eX8_applyTiers_42 ?_
    refine wp_aload_n eX8_applyTiers_45 rfl ?_
    refine gf_X8_38 eX8_applyTiers_46 ?_
    refine c_X8_134 eX8_applyTiers_49 (ct_rem hL5 (fun M2 hR hL9 => ?_))
    obtain ⟨tsi, tbr, thn, thr, tri⟩ := id hL9
    have tsm := tsi.1
    have thn5 := hL5.2.2.1.1
    have g26 : M2 26 0 = M1 26 0 := hR.k thn5 (by decide) (by omega)
    have g27 : M2 27 0 = M1 27 0 := hR.k thn5 (by decide) (by omega)
    have g28 : M2 28 0 = M1 28 0 := hR.k thn5 (by decide) (by omega)
    have g6 : M2 6 1 = M1 6 1 := hR.k thn5 (by decide) (by omega)
    have hz := fbR_sz hsi (kk := q) (by omega) (by omega)
    have hzr := hz.rng (by omega)
    have hrI := rk_all_rng (v := M 8 1) (M 6 1 3).toNat 0 (M 26 0) (by omega) (fun q a b => by omega)
    have hrD := rk_all_rng (v := M 7 1) (M 6 1 2).toNat 0 (M 27 0) (by omega) (fun q a b => by omega)
    refine wp_aload_n eX8_applyTiers_52 rfl ?_
    refine gf_X8_75 eX8_applyTiers_53 ?_
    refine wp_aload_n eX8_applyTiers_56 rfl ?_
    refine gf_X8_38 eX8_applyTiers_57 ?_
    refine gf_X8_112 eX8_applyTiers_60 ?_
    refine wp_iload_n eX8_applyTiers_63 rfl ?_
    refine c_X8_183 eX8_applyTiers_64 (ct_applyBest (z := 1) (kk := q) (ni := M 6 1 3) (it := rk_all (M 8 1) (M 6 1 3).toNat 0 (M 26 0)) (dd := rk_all (M 7 1) (M 6 1 2).toNat 0 (M 27 0)) (sz := (fbR M 1 q).2.2) (by omega) (by omega) (by omega) (by rw [g6, f6]) (by rw [g26]; exact hD.2.2.2.1) (by rw [g27]; exact hD.2.2.2.2) (by rw [g28]; exact hD.2.2.1) (fun x a b => by have := hrI x a (by omega); omega) (fun x a b => by have := hzr x a b; omega) (fun x a b => by have := hrD x a (by omega); omega) tsi.2.1 ?_)
    have hsv : SV (as_out (rk_all (M 8 1) (M 6 1 3).toNat 0 (M 26 0)) (rk_all (M 7 1) (M 6 1 2).toNat 0 (M 27 0)) (fbR M 1 q).2.2 (M 6 1 3) q.toNat 0 0 (M2 9 1) 0).1 (M2 7 1) (M2 6 1 2) (M2 6 1 3) (M2 6 1 0) (M2 6 1 1) := by
      have t := tsm.1
      refine ⟨t.1, t.2.1, t.2.2.1, t.2.2.2.1, t.2.2.2.2.1, ?_⟩
      have e3 : M2 6 1 3 = M 6 1 3 := by rw [g6, f6]
      have e2 : M2 6 1 2 = M 6 1 2 := by rw [g6, f6]
      have t6 := t.2.2.2.2.2
      rw [e3, e2] at t6 ⊢
      exact as_out_dk _ _ _ _ _ (fun x a b => by have := hrD x a (by omega); omega) t6
    refine ist_2 eX8_applyTiers_67 ?_
    refine wp_aload_n eX8_applyTiers_68 rfl ?_
    refine gf_X8_51 eX8_applyTiers_69 ?_
    refine wp_aload_n eX8_applyTiers_72 rfl ?_
    refine gf_X8_38 eX8_applyTiers_73 ?_
    refine gf_X8_112 eX8_applyTiers_76 ?_
    refine c_X8_115 eX8_applyTiers_79 (ct_build (j := 0) (z := 1) (dk := (as_out (rk_all (M 8 1) (M 6 1 3).toNat 0 (M 26 0)) (rk_all (M 7 1) (M 6 1 2).toNat 0 (M 27 0)) (fbR M 1 q).2.2 (M 6 1 3) q.toNat 0 0 (M2 9 1) 0).1) (by omega) (by omega) hsv row_at (by rw [row_kne (by decide)]) (by rw [row_kne (by decide)]) (by rw [row_kne (by decide)]) (by rw [row_kne (by decide)]) (by rw [row_kne (by decide)]) (fun M3 hF3 hB3 => ?_))
    refine wp_iload_n eX8_applyTiers_82 rfl ?_
    refine wp_ireturn eX8_applyTiers_83 ?_
    have g9 : M2 9 1 = M 9 1 := by rw [hR.k thn5 (by decide) (by omega), hD.1 9 1 (by unfold dvP trP bpP; omega)]
    have g7 : M2 7 1 = M 7 1 := by rw [hR.k thn5 (by decide) (by omega), hD.1 7 1 (by unfold dvP trP bpP; omega)]
    rw [g9] at hF3 hB3 hsv ⊢
    exact k3b hL1 (by omega) (by omega) M1 M2 M3 hD hL5 hR hL9 hF3 hsv hB3
  · refine wp_bipush eX8_applyTiers_33 ?_
    refine wp_ireturn eX8_applyTiers_35 ?_
    exact k3a hL1 (by omega) (by omega)
def RES (M M1 : bc_M) : Prop := Fr (fun k' j' => (k' = 15 ∧ j' = 0) ∨ STP 1 k' j') M M1 ∧ stEq M1 1 M (2 + (if 0 < M 15 0 1 then M 15 0 1 - 1 else 9)) ∧ M1 15 0 1 = (if 0 < M 15 0 1 then M 15 0 1 - 1 else 9) ∧ M1 15 0 0 = M 15 0 0 - 1
theorem ct_undo {G : bc_G} {M : bc_M} {post : bc_R → bc_M → Prop} {n : Int} (hl : M 1 0 3 = 0 ∨ M 1 0 3 = 1) (hI : M 1 0 3 = 1 → LI M n) (k1 : M 1 0 3 = 0 → post (.inl "java/lang/IllegalStateException") M) (k3a : M 1 0 3 = 1 → M 15 0 0 = 0 → post (.inr (some (vI (-2)))) M) (k3b : M 1 0 3 = 1 → M 15 0 0 ≠ 0 → ∀ M1 M2 : bc_M, RES M M1 → SI M1 1 n → Fr (bpP 0) M1 M2 → BS M2 0 1 → post (.inr (some (vI (M1 15 0 0)))) M2) : bc_Call G yX8_undo cX8_undo 1 (some .int) 9 1 [vR G 1 0] M post := by
  refine bc_enter (L := [some (vR G 1 0)]) (by decide) rfl rfl ?_
  refine wp_aload_n eX8_undo_0 rfl ?_
  refine cx_X8_125 eX8_undo_1 (ct_needCarousel k1 (fun hc0 => ?_))
  have hL1 : M 1 0 3 = 1 := by omega
  obtain ⟨hsi, hbr, hhn, hhr, hri⟩ := hI hL1
  have hsm := hsi.1
  have hni := hsm.1.2.1
  have hnd := hsm.1.1
  have hls := hsi.2.2.1
  have hpv := BR.pv hsm.1 hbr
  refine wp_aload_n eX8_undo_4 rfl ?_
  refine gf_X8_44 eX8_undo_5 ?_
  refine gf_X8_331 eX8_undo_8 ?_
  refine wp_if_ne eX8_undo_11 (fun c11 => ?_) (fun c11 => ?_)
  · have hnx : (2 + (M 15 0 1 - 1 - 0) % 10) = 2 + (if 0 < M 15 0 1 then M 15 0 1 - 1 else 9) := by split <;> omega
    refine wp_aload_n eX8_undo_17 rfl ?_
    refine gf_X8_44 eX8_undo_18 ?_
    refine wp_aload_n eX8_undo_21 rfl ?_
    refine gf_X8_38 eX8_undo_22 ?_
    refine c_X8_334 eX8_undo_25 (ct_restore hhn (by omega) (hnx ▸ (hri 0 (by omega) (by omega)).2.2.1) (fun M1 a1 a2 a3 a4 => ?_))
    have hsi1 : SI M1 1 n := SI.eq (hnx ▸ hri 0 (by omega) (by omega)) a2
    refine wp_aload_n eX8_undo_28 rfl ?_
    refine gf_X8_51 eX8_undo_29 ?_
    refine wp_aload_n eX8_undo_32 rfl ?_
    refine gf_X8_38 eX8_undo_33 ?_
    refine gf_X8_112 eX8_undo_36 ?_
    refine c_X8_115 eX8_undo_39 (ct_build (j := 0) (z := 1) (by omega) (by omega) hsi1.1.1 rfl rfl rfl rfl rfl rfl (fun M2 hF2 hB2 => ?_))
    have hBS : BS M2 0 1 := by
      unfold BS
      rw [hF2 9 1 (by unfold bpP; omega), hF2 7 1 (by unfold bpP; omega), hF2 6 1 (by unfold bpP; omega)]
      exact hB2
    refine wp_aload_n eX8_undo_42 rfl ?_
    refine gf_X8_44 eX8_undo_43 ?_
    refine gf_X8_331 eX8_undo_46 ?_
    rw [hF2 15 0 (by unfold bpP; omega)]
    refine wp_ireturn eX8_undo_49 ?_
    exact k3b hL1 (by omega) M1 M2 ⟨a1, a2, a3, a4⟩ hsi1 hF2 hBS
  · refine wp_bipush eX8_undo_14 ?_
    refine wp_ireturn eX8_undo_16 ?_
    exact k3a hL1 (by omega)
theorem bx_byte_n {a : Int} : narrow .byte (.int (Int32.ofInt (bx_byte a))) = .int (Int32.ofInt (bx_byte a)) := by
  unfold bx_byte
  rw [Int32.ofInt_toInt]
  simp [narrow]
def aw (w : Int) : Nat → bc_M → bc_M
  | 0, M => M
  | n + 1, M => aw w n (bc_up (bc_up M 2 0 (M 1 0 1) (bx_byte (bx_shr w (8 * n)))) 1 0 1 (M 1 0 1 + 1))
theorem aw_len {w : Int} : ∀ (n : Nat) (M : bc_M), aw w n M 1 0 1 = M 1 0 1 + n
  | 0, M => by simp [aw]
  | n + 1, M => by
    simp only [aw]
    rw [aw_len n, up_v, if_pos rfl]
    omega
theorem lp_aw {G : bc_G} {post : bc_R → bc_M → Prop} {w : Int} : ∀ (n : Nat) (sh : Int) (Mc : bc_M) (h1 : sh = 8 * n - 8) (h3 : 0 ≤ Mc 1 0 1 ∧ Mc 1 0 1 + n ≤ 500) (h4 : n ≤ 4) (k : post (.inr none) (aw w n Mc)), bc_W G RX8 cX8_appendWord 3 none 1 0 0 3 [some (vR G 1 0), some (vI w), some (vI sh)] [] Mc post := by
  intro n
  induction n with
  | zero =>
    intro sh Mc h1 h3 h4 k
    refine wp_iload_n eX8_appendWord_3 rfl ?_
    refine wp_if_lt eX8_appendWord_4 (fun c4 => ?_) (fun c4 => ?_)
    · simp only [aw] at k
      refine wp_return eX8_appendWord_46 ?_
      exact k
    · omega
  | succ n ih =>
    intro sh Mc h1 h3 h4 k
    refine wp_iload_n eX8_appendWord_3 rfl ?_
    refine wp_if_lt eX8_appendWord_4 (fun c4 => ?_) (fun c4 => ?_)
    · omega
    · refine wp_aload_n eX8_appendWord_7 rfl ?_
      refine gf_X8_13 eX8_appendWord_8 ?_
      refine wp_sipush eX8_appendWord_11 ?_
      refine wp_icmp_ge eX8_appendWord_14 (fun c14 => ?_) (fun c14 => ?_)
      · omega
      · refine wp_aload_n eX8_appendWord_17 rfl ?_
        refine gf_X8_9 eX8_appendWord_18 ?_
        refine wp_aload_n eX8_appendWord_21 rfl ?_
        refine gf_X8_13 eX8_appendWord_22 ?_
        refine wp_iload_n eX8_appendWord_25 rfl ?_
        refine wp_iload_n eX8_appendWord_26 rfl ?_
        refine wp_ishr eX8_appendWord_27 ?_
        refine wp_i2b eX8_appendWord_28 ?_
        refine as_2 eX8_appendWord_29 bx_byte_n ?_
        refine wp_aload_n eX8_appendWord_30 rfl ?_
        refine wp_dup eX8_appendWord_31 ?_
        refine gf_X8_13 eX8_appendWord_32 ?_
        refine wp_iconst eX8_appendWord_35 ?_
        refine wp_iadd eX8_appendWord_36 ?_
        refine pf_X8_13 eX8_appendWord_37 ?_
        rw [up_kne (k := 2) (k' := 1) (by decide)]
        refine inc_2 eX8_appendWord_40 ?_
        refine wp_goto eX8_appendWord_43 ?_
        simp only [aw] at k
        rw [show sh = 8 * (n : Int) by omega]
        exact ih _ _ (by omega) (by rw [up_v, if_pos rfl]; omega) (by omega) k
theorem ct_appendWord {G : bc_G} {M : bc_M} {post : bc_R → bc_M → Prop} {w : Int} (ht : 0 ≤ M 1 0 1 ∧ M 1 0 1 ≤ 496) (k : post (.inr none) (aw w 4 M)) : bc_Call G yX8_appendWord cX8_appendWord 3 none 1 0 [vR G 1 0, vI w] M post := by
  refine bc_enter (L := [some (vR G 1 0), some (vI w), none]) (by decide) rfl rfl ?_
  refine wp_bipush eX8_appendWord_0 ?_
  refine ist_2 eX8_appendWord_2 ?_
  exact lp_aw 4 24 M (by omega) (by omega) (by omega) k
theorem ct_append {G : bc_G} {M : bc_M} {post : bc_R → bc_M → Prop} {a b c d e : Int} (ht : 0 ≤ M 1 0 1 ∧ M 1 0 1 ≤ 500) (k1 : 480 < M 1 0 1 → post (.inl "java/lang/IllegalStateException") M) (k2 : M 1 0 1 ≤ 480 → post (.inr (some (vI (M 1 0 1 + 20)))) (aw e 4 (aw d 4 (aw c 4 (aw b 4 (aw a 4 M)))))) : bc_Call G yX8_append cX8_append 6 (some .int) 9 1 [vR G 1 0, vI a, vI b, vI c, vI d, vI e] M post := by
  refine bc_enter (L := [some (vR G 1 0), some (vI a), some (vI b), some (vI c), some (vI d), some (vI e)]) (by decide) rfl rfl ?_
  refine wp_aload_n eX8_append_0 rfl ?_
  refine gf_X8_13 eX8_append_1 ?_
  refine wp_sipush eX8_append_4 ?_
  refine wp_icmp_le eX8_append_7 (fun c7 => ?_) (fun c7 => ?_)
  · refine wp_aload_n eX8_append_20 rfl ?_
    refine wp_iload_n eX8_append_21 rfl ?_
    refine c_X8_93 eX8_append_22 (ct_appendWord (by first | omega | (simp only [aw_len]; omega)) ?_)
    refine wp_aload_n eX8_append_25 rfl ?_
    refine wp_iload_n eX8_append_26 rfl ?_
    refine c_X8_93 eX8_append_27 (ct_appendWord (by first | omega | (simp only [aw_len]; omega)) ?_)
    refine wp_aload_n eX8_append_30 rfl ?_
    refine wp_iload_n eX8_append_31 rfl ?_
    refine c_X8_93 eX8_append_32 (ct_appendWord (by first | omega | (simp only [aw_len]; omega)) ?_)
    refine wp_aload_n eX8_append_35 rfl ?_
    refine wp_iload eX8_append_36 rfl ?_
    refine c_X8_93 eX8_append_38 (ct_appendWord (by first | omega | (simp only [aw_len]; omega)) ?_)
    refine wp_aload_n eX8_append_41 rfl ?_
    refine wp_iload eX8_append_42 rfl ?_
    refine c_X8_93 eX8_append_44 (ct_appendWord (by first | omega | (simp only [aw_len]; omega)) ?_)
    refine wp_aload_n eX8_append_47 rfl ?_
    refine gf_X8_13 eX8_append_48 ?_
    refine wp_ireturn eX8_append_51 ?_
    rw [show aw e 4 (aw d 4 (aw c 4 (aw b 4 (aw a 4 M)))) 1 0 1 = M 1 0 1 + 20 by simp only [aw_len]; omega]
    exact k2 (by omega)
  · exact bc_throwS (tx := "the text buffer is full") (ti := 7) th_ISE (by decide +kernel) eX8_append_10 eX8_append_13 eX8_append_14 eX8_append_16 eX8_append_19 (k1 (by omega))
