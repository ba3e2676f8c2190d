theorem CN.mono {M : bc_M} {c n n' : Int} (h : CN M c n) (hn : n ≤ n') : CN M c n' := by
  obtain ⟨h1, h2, h3, h4, h5, h6⟩ := h
  exact ⟨h1, h2, by omega, h4, by omega, fun i a b => by have := h6 i a b; omega⟩
theorem CN.rows {M M1 : bc_M} {c n : Int} (h : CN M c n) (e : ∀ k, (k = 12 ∨ k = 13 ∨ k = 14) → M1 k c = M k c) : CN M1 c n := by
  unfold CN at h ⊢
  simp only [e 12 (by decide), e 13 (by decide), e 14 (by decide)]
  exact h
theorem SI.mono {M : bc_M} {s n n' : Int} (h : SI M s n) (hn : n ≤ n') : SI M s n' := ⟨h.1, h.2.1, h.2.2.1, fun c a b => (h.2.2.2 c a b).mono hn⟩
theorem SI.cong {M M1 : bc_M} {s n : Int} (h : SI M s n) (e : ∀ k, (k = 5 ∨ k = 6 ∨ k = 7 ∨ k = 8 ∨ k = 9 ∨ k = 10) → M1 k s = M k s) (e2 : ∀ k c, (k = 12 ∨ k = 13 ∨ k = 14) → 4 * s ≤ c → c < 4 * s + 4 → M1 k c = M k c) : SI M1 s n := by
  obtain ⟨h1, h2, h3, h4⟩ := h
  refine ⟨SM_fr h1 (fun k hk => e k (by omega)), ?_, ?_, ?_⟩
  · rw [e 9 (by decide)]; exact h2
  · rw [e 5 (by decide)]; exact h3
  · rw [e 5 (by decide)]
    exact fun c a b => (h4 c a b).rows (fun k hk => e2 k _ hk (by omega) (by omega))
theorem SI.eq {M M1 : bc_M} {a b n : Int} (h : SI M b n) (e : stEq M1 a M b) : SI M1 a n := by
  obtain ⟨⟨q1, q2, q3, q4, q5⟩, q6, q7⟩ := e
  obtain ⟨h1, h2, h3, h4⟩ := h
  refine ⟨?_, ?_, ?_, ?_⟩
  · unfold SM at h1 ⊢
    rw [q1, q2, q3, q4, q5 0 (by decide) (by decide), q5 1 (by decide) (by decide), q5 2 (by decide) (by decide), q5 3 (by decide) (by decide)]
    exact h1
  · rw [q3]; exact h2
  · rw [q6]; exact h3
  · rw [q6]
    exact fun c x y => CN_cong (q7 c x y) (h4 c x y)
theorem BS.cong {M M1 : bc_M} {j z : Int} (h : BS M j z) (e : ∀ k, (k = 6 ∨ k = 7 ∨ k = 9) → M1 k z = M k z) (e1 : ∀ k, (k = 17 ∨ k = 18 ∨ k = 19) → M1 k j = M k j) (e2 : ∀ q, 16 * j ≤ q → q < 16 * j + 16 → M1 21 q = M 21 q) (hi : M 6 z 3 ≤ 16) : BS M1 j z := by
  unfold BS BR at h ⊢
  rw [e 6 (by decide), e 7 (by decide), e 9 (by decide), e1 17 (by decide), e1 18 (by decide), e1 19 (by decide)]
  obtain ⟨h1, h2, h3, h4, h5, h6⟩ := h
  refine ⟨h1, h2, h3, h4, h5, fun i a b => ⟨(h6 i a b).1, fun q x y => ?_⟩⟩
  rw [e2 _ (by omega) (by omega)]
  exact (h6 i a b).2 q x y
def remP (M : bc_M) : Nat → Int → Prop := fun k' j' => (k' = 15 ∧ j' = 0) ∨ STP (2 + M 15 0 1) k' j'
/-- the state was put away -/
def REM (M M1 : bc_M) : Prop := Fr (remP M) M M1 ∧ stEq M1 (2 + M 15 0 1) M 1 ∧ M1 15 0 1 = (if M 15 0 1 + 1 < 10 then M 15 0 1 + 1 else 0) ∧ M1 15 0 0 = min (M 15 0 0 + 1) 10
theorem REM.li {M M1 : bc_M} {n : Int} (h : REM M M1) (hl : LI M n) : LI M1 n := by
  obtain ⟨hsi, hbs, hn, hr, hri⟩ := hl
  obtain ⟨hF, hE, e1, e0⟩ := h
  have hf : ∀ k j, ¬ (k = 15 ∧ j = 0) → ¬ STP (2 + M 15 0 1) k j → M1 k j = M k j := fun k j a b => hF k j (fun q => q.elim a b)
  have h16 := hsi.1.1.2.1
  refine ⟨hsi.cong (fun k hk => hf k 1 (by omega) (by unfold STP; omega)) (fun k c hk a b => hf k c (by omega) (by unfold STP; omega)), hbs.cong (fun k hk => hf k 1 (by omega) (by unfold STP; omega)) (fun k hk => hf k 0 (by omega) (by unfold STP; omega)) (fun q a b => hf 21 q (by omega) (by unfold STP; omega)) (by omega), ?_, ?_, fun r a b => ?_⟩
  · rw [e1]; split <;> omega
  · rw [e0]; omega
  · rw [e0] at b
    rw [e1]
    by_cases hr0 : r = 0
    · subst hr0
      have : (2 + ((if M 15 0 1 + 1 < 10 then M 15 0 1 + 1 else 0) - 1 - 0) % 10) = 2 + M 15 0 1 := by split <;> omega
      rw [this]
      exact hsi.eq hE
    · have hx : (2 + ((if M 15 0 1 + 1 < 10 then M 15 0 1 + 1 else 0) - 1 - r) % 10) = 2 + (M 15 0 1 - 1 - (r - 1)) % 10 := by split <;> omega
      rw [hx]
      have hy := hri (r - 1) (by omega) (by omega)
      have hne : (M 15 0 1 - 1 - (r - 1)) % 10 ≠ M 15 0 1 := by omega
      have hge : 0 ≤ (M 15 0 1 - 1 - (r - 1)) % 10 := by omega
      generalize (M 15 0 1 - 1 - (r - 1)) % 10 = s at hy hne hge ⊢
      exact hy.cong (fun k hk => hf k _ (by omega) (by unfold STP; omega)) (fun k c hk a b => hf k c (by omega) (by unfold STP; omega))
theorem REM.o {M M1 : bc_M} (h : REM M M1) {k : Nat} {j : Int} (h1 : ¬ (k = 15 ∧ j = 0)) (h2 : ¬ STP (2 + M 15 0 1) k j) : M1 k j = M k j := h.1 k j (fun q => q.elim h1 h2)
theorem REM.k {M M1 : bc_M} (h : REM M M1) (hl : 0 ≤ M 15 0 1) {k : Nat} {j : Int} (h1 : k ≠ 15) (h2 : k < 5 ∨ 14 < k ∨ k = 11 ∨ (k ≤ 10 ∧ j ≤ 1) ∨ (12 ≤ k ∧ j < 8)) : M1 k j = M k j := h.o (by omega) (by unfold STP; omega)
theorem ct_rem {G : bc_G} {M : bc_M} {post : bc_R → bc_M → Prop} {n : Int} (hl : LI M n) (k : ∀ M1 : bc_M, REM M M1 → LI M1 n → post (.inr none) M1) : bc_Call G yX1_remember cX1_remember 2 none 4 0 [vR G 15 0, vR G 5 1] M post :=
  ct_remember hl.2.2.1 hl.2.2.2.1 hl.1.2.2.1 (fun M1 a b c d => k M1 ⟨a, b, c, d⟩ (REM.li ⟨a, b, c, d⟩ hl))
theorem ct_request {G : bc_G} {M : bc_M} {post : bc_R → bc_M → Prop} {n : Int} {c i : Int} (h_c : -2147483648 ≤ c ∧ c < 2147483648) (h_i : -2147483648 ≤ i ∧ i < 2147483648) (hl : M 1 0 3 = 0 ∨ M 1 0 3 = 1) (hI : M 1 0 3 = 1 → LI M n) (k1 : M 1 0 3 = 0 → post (.inl "java/lang/IllegalStateException") M) (k2 : M 1 0 3 = 1 → (c < 0 ∨ M 5 1 1 ≤ c) ∨ (i < 0 ∨ M 6 1 3 ≤ i) → post (.inl "java/lang/IllegalArgumentException") M) (k3 : M 1 0 3 = 1 → ¬ ((c < 0 ∨ M 5 1 1 ≤ c) ∨ (i < 0 ∨ M 6 1 3 ≤ i)) → ∀ M1 : bc_M, REM M M1 → LI M1 n → post (.inr (some (vI (askR M1 (4 * 1 + c) 0 i)))) (askM M1 (4 * 1 + c) 1 0 i)) (hn9 : 0 ≤ n ∧ n ≤ 2900) : bc_Call G yX8_request cX8_request 3 (some .int) 9 3 [vR G 1 0, vI c, vI i] M post := by
  refine bc_enter (L := [some (vR G 1 0), some (vI c), some (vI i)]) (by decide) rfl rfl ?_
  refine wp_aload_n eX8_request_0 rfl ?_
  refine cx_X8_125 eX8_request_1 (ct_needCarousel k1 (fun hc0 => ?_))
  have hL1 : M 1 0 3 = 1 := by omega
  obtain ⟨hsi, hbr, hhn, hhr, hri⟩ := hI hL1
  have hsm := hsi.1
  have hni := hsm.1.2.1
  have hnd := hsm.1.1
  have hls := hsi.2.2.1
  have hpv := BR.pv hsm.1 hbr
  refine wp_aload_n eX8_request_4 rfl ?_
  refine wp_iload_n eX8_request_5 rfl ?_
  refine cx_X8_128 eX8_request_6 (ct_needClient (fun h => k2 hL1 (by omega)) (fun g6a g6b => ?_))
  refine wp_aload_n eX8_request_9 rfl ?_
  refine wp_iload_n eX8_request_10 rfl ?_
  refine cx_X8_131 eX8_request_11 (ct_needItem (fun h => k2 hL1 (by omega)) (fun g11a g11b => ?_))
  refine wp_aload_n eX8_request_14 rfl ?_
  refine gf_X8_44 eX8_request_15 ?_
  refine wp_aload_n eX8_request_18 rfl ?_
  refine gf_X8_38 eX8_request_19 ?_
  refine c_X8_134 eX8_request_22 (ct_rem (hI hL1) (fun M1 hR hL9 => ?_))
  obtain ⟨tsi, tbr, thn, thr, tri⟩ := id hL9
  have tsm := tsi.1
  have tpv := BR.pv tsm.1 tbr
  have e6 : M1 6 1 = M 6 1 := hR.k hhn.1 (by decide) (by omega)
  have e5 : M1 5 1 = M 5 1 := hR.k hhn.1 (by decide) (by omega)
  refine wp_aload_n eX8_request_25 rfl ?_
  refine gf_X8_38 eX8_request_26 ?_
  refine gf_X8_137 eX8_request_29 ?_
  refine wp_iload_n eX8_request_32 rfl ?_
  refine al_11 eX8_request_33 ?_
  refine wp_iload_n eX8_request_34 rfl ?_
  refine wp_aload_n eX8_request_35 rfl ?_
  refine gf_X8_38 eX8_request_36 ?_
  refine gf_X8_112 eX8_request_39 ?_
  refine wp_aload_n eX8_request_42 rfl ?_
  refine gf_X8_51 eX8_request_43 ?_
  refine c_X8_141 eX8_request_46 (ct_ask (c := 4 * 1 + c) (z := 1) (j := 0) (n := n) (by omega) (by omega) (by omega) tsm tpv.1 rfl (tsi.2.2.2 c (by omega) (by rw [e5]; omega)) (by omega) (by rw [e6]; omega) ?_)
  refine wp_ireturn eX8_request_49 ?_
  exact k3 hL1 (by omega) M1 hR hL9
theorem ct_think {G : bc_G} {M : bc_M} {post : bc_R → bc_M → Prop} {n : Int} {c t : Int} (h_c : -2147483648 ≤ c ∧ c < 2147483648) (h_t : -2147483648 ≤ t ∧ t < 2147483648) (hl : M 1 0 3 = 0 ∨ M 1 0 3 = 1) (hI : M 1 0 3 = 1 → LI M n) (k1 : M 1 0 3 = 0 → post (.inl "java/lang/IllegalStateException") M) (k2 : M 1 0 3 = 1 → (c < 0 ∨ M 5 1 1 ≤ c) ∨ (t < 1 ∨ 9999 < t) → post (.inl "java/lang/IllegalArgumentException") M) (k3 : M 1 0 3 = 1 → ¬ ((c < 0 ∨ M 5 1 1 ≤ c) ∨ (t < 1 ∨ 9999 < t)) → ∀ M1 : bc_M, REM M M1 → LI M1 n → post (.inr (some (vI (M1 12 (4 * 1 + c) 2 + t)))) (bc_up M1 12 (4 * 1 + c) 2 (M1 12 (4 * 1 + c) 2 + t))) : bc_Call G yX8_think cX8_think 4 (some .int) 9 3 [vR G 1 0, vI c, vI t] M post := by
  refine bc_enter (L := [some (vR G 1 0), some (vI c), some (vI t), none]) (by decide) rfl rfl ?_
  refine wp_aload_n eX8_think_0 rfl ?_
  refine cx_X8_125 eX8_think_1 (ct_needCarousel k1 (fun hc0 => ?_))
  have hL1 : M 1 0 3 = 1 := by omega
  obtain ⟨hsi, hbr, hhn, hhr, hri⟩ := hI hL1
  have hsm := hsi.1
  have hni := hsm.1.2.1
  have hnd := hsm.1.1
  have hls := hsi.2.2.1
  have hpv := BR.pv hsm.1 hbr
  refine wp_aload_n eX8_think_4 rfl ?_
  refine wp_iload_n eX8_think_5 rfl ?_
  refine cx_X8_128 eX8_think_6 (ct_needClient (fun h => k2 hL1 (by omega)) (fun g6a g6b => ?_))
  refine wp_iload_n eX8_think_9 rfl ?_
  refine wp_iconst eX8_think_10 ?_
  refine wp_sipush eX8_think_11 ?_
  refine cx_X8_97 eX8_think_14 (ct_needRange (fun h => k2 hL1 (by omega)) (fun g14a g14b => ?_))
  refine wp_aload_n eX8_think_17 rfl ?_
  refine gf_X8_44 eX8_think_18 ?_
  refine wp_aload_n eX8_think_21 rfl ?_
  refine gf_X8_38 eX8_think_22 ?_
  refine c_X8_134 eX8_think_25 (ct_rem (hI hL1) (fun M1 hR hL9 => ?_))
  obtain ⟨tsi, tbr, thn, thr, tri⟩ := id hL9
  have tsm := tsi.1
  have tpv := BR.pv tsm.1 tbr
  have e6 : M1 6 1 = M 6 1 := hR.k hhn.1 (by decide) (by omega)
  have e5 : M1 5 1 = M 5 1 := hR.k hhn.1 (by decide) (by omega)
  refine wp_aload_n eX8_think_28 rfl ?_
  refine gf_X8_38 eX8_think_29 ?_
  refine gf_X8_137 eX8_think_32 ?_
  refine wp_iload_n eX8_think_35 rfl ?_
  refine al_11 eX8_think_36 ?_
  refine ast_3 eX8_think_37 ?_
  refine wp_aload_n eX8_think_38 rfl ?_
  refine wp_dup eX8_think_39 ?_
  refine gf_X8_145 eX8_think_40 ?_
  refine wp_iload_n eX8_think_43 rfl ?_
  refine wp_iadd eX8_think_44 ?_
  refine pf_X8_145 eX8_think_45 ?_
  refine wp_aload_n eX8_think_48 rfl ?_
  refine gf_X8_145 eX8_think_49 ?_
  refine wp_ireturn eX8_think_52 ?_
  rw [up_v, if_pos rfl]
  exact k3 hL1 (by omega) M1 hR hL9
theorem ct_setPopularity {G : bc_G} {M : bc_M} {post : bc_R → bc_M → Prop} {n : Int} {i v : Int} (h_i : -2147483648 ≤ i ∧ i < 2147483648) (h_v : -2147483648 ≤ v ∧ v < 2147483648) (hl : M 1 0 3 = 0 ∨ M 1 0 3 = 1) (hI : M 1 0 3 = 1 → LI M n) (k1 : M 1 0 3 = 0 → post (.inl "java/lang/IllegalStateException") M) (k2 : M 1 0 3 = 1 → (i < 0 ∨ M 6 1 3 ≤ i) ∨ (v < 0 ∨ 99 < v) → post (.inl "java/lang/IllegalArgumentException") M) (k3 : M 1 0 3 = 1 → ¬ ((i < 0 ∨ M 6 1 3 ≤ i) ∨ (v < 0 ∨ 99 < v)) → ∀ M1 : bc_M, REM M M1 → LI M1 n → post (.inr (some (vI (M1 8 1 i)))) (bc_up M1 8 1 i v)) : bc_Call G yX8_setPopularity cX8_setPopularity 4 (some .int) 9 3 [vR G 1 0, vI i, vI v] M post := by
  refine bc_enter (L := [some (vR G 1 0), some (vI i), some (vI v), none]) (by decide) rfl rfl ?_
  refine wp_aload_n eX8_setPopularity_0 rfl ?_
  refine cx_X8_125 eX8_setPopularity_1 (ct_needCarousel k1 (fun hc0 => ?_))
  have hL1 : M 1 0 3 = 1 := by omega
  obtain ⟨hsi, hbr, hhn, hhr, hri⟩ := hI hL1
  have hsm := hsi.1
  have hni := hsm.1.2.1
  have hnd := hsm.1.1
  have hls := hsi.2.2.1
  have hpv := BR.pv hsm.1 hbr
  refine wp_aload_n eX8_setPopularity_4 rfl ?_
  refine wp_iload_n eX8_setPopularity_5 rfl ?_
  refine cx_X8_131 eX8_setPopularity_6 (ct_needItem (fun h => k2 hL1 (by omega)) (fun g6a g6b => ?_))
  refine wp_iload_n eX8_setPopularity_9 rfl ?_
  refine wp_iconst eX8_setPopularity_10 ?_
  refine wp_bipush eX8_setPopularity_11 ?_
  refine cx_X8_97 eX8_setPopularity_13 (ct_needRange (fun h => k2 hL1 (by omega)) (fun g13a g13b => ?_))
  refine wp_aload_n eX8_setPopularity_16 rfl ?_
  refine gf_X8_44 eX8_setPopularity_17 ?_
  refine wp_aload_n eX8_setPopularity_20 rfl ?_
  refine gf_X8_38 eX8_setPopularity_21 ?_
  refine c_X8_134 eX8_setPopularity_24 (ct_rem (hI hL1) (fun M1 hR hL9 => ?_))
  obtain ⟨tsi, tbr, thn, thr, tri⟩ := id hL9
  have tsm := tsi.1
  have tpv := BR.pv tsm.1 tbr
  have e6 : M1 6 1 = M 6 1 := hR.k hhn.1 (by decide) (by omega)
  have e5 : M1 5 1 = M 5 1 := hR.k hhn.1 (by decide) (by omega)
  refine wp_aload_n eX8_setPopularity_27 rfl ?_
  refine gf_X8_38 eX8_setPopularity_28 ?_
  refine gf_X8_112 eX8_setPopularity_31 ?_
  refine gf_X8_148 eX8_setPopularity_34 ?_
  refine wp_iload_n eX8_setPopularity_37 rfl ?_
  refine al_8 eX8_setPopularity_38 ?_
  refine ist_3 eX8_setPopularity_39 ?_
  refine wp_aload_n eX8_setPopularity_40 rfl ?_
  refine gf_X8_38 eX8_setPopularity_41 ?_
  refine gf_X8_112 eX8_setPopularity_44 ?_
  refine gf_X8_148 eX8_setPopularity_47 ?_
  refine wp_iload_n eX8_setPopularity_50 rfl ?_
  refine wp_iload_n eX8_setPopularity_51 rfl ?_
  refine as_8 eX8_setPopularity_52 ?_
  refine wp_iload_n eX8_setPopularity_53 rfl ?_
  refine wp_ireturn eX8_setPopularity_54 ?_
  exact k3 hL1 (by omega) M1 hR hL9
theorem ct_setBound {G : bc_G} {M : bc_M} {post : bc_R → bc_M → Prop} {n : Int} {i v : Int} (h_i : -2147483648 ≤ i ∧ i < 2147483648) (h_v : -2147483648 ≤ v ∧ v < 2147483648) (hl : M 1 0 3 = 0 ∨ M 1 0 3 = 1) (hI : M 1 0 3 = 1 → LI M n) (k1 : M 1 0 3 = 0 → post (.inl "java/lang/IllegalStateException") M) (k2 : M 1 0 3 = 1 → (i < 0 ∨ M 6 1 3 ≤ i) ∨ (v < 0 ∨ 999 < v) → post (.inl "java/lang/IllegalArgumentException") M) (k3 : M 1 0 3 = 1 → ¬ ((i < 0 ∨ M 6 1 3 ≤ i) ∨ (v < 0 ∨ 999 < v)) → ∀ M1 : bc_M, REM M M1 → LI M1 n → post (.inr (some (vI (M1 10 1 i)))) (bc_up M1 10 1 i v)) : bc_Call G yX8_setBound cX8_setBound 4 (some .int) 9 3 [vR G 1 0, vI i, vI v] M post := by
  refine bc_enter (L := [some (vR G 1 0), some (vI i), some (vI v), none]) (by decide) rfl rfl ?_
  refine wp_aload_n eX8_setBound_0 rfl ?_
  refine cx_X8_125 eX8_setBound_1 (ct_needCarousel k1 (fun hc0 => ?_))
  have hL1 : M 1 0 3 = 1 := by omega
  obtain ⟨hsi, hbr, hhn, hhr, hri⟩ := hI hL1
  have hsm := hsi.1
  have hni := hsm.1.2.1
  have hnd := hsm.1.1
  have hls := hsi.2.2.1
  have hpv := BR.pv hsm.1 hbr
  refine wp_aload_n eX8_setBound_4 rfl ?_
  refine wp_iload_n eX8_setBound_5 rfl ?_
  refine cx_X8_131 eX8_setBound_6 (ct_needItem (fun h => k2 hL1 (by omega)) (fun g6a g6b => ?_))
  refine wp_iload_n eX8_setBound_9 rfl ?_
  refine wp_iconst eX8_setBound_10 ?_
  refine wp_sipush eX8_setBound_11 ?_
  refine cx_X8_97 eX8_setBound_14 (ct_needRange (fun h => k2 hL1 (by omega)) (fun g14a g14b => ?_))
  refine wp_aload_n eX8_setBound_17 rfl ?_
  refine gf_X8_44 eX8_setBound_18 ?_
  refine wp_aload_n eX8_setBound_21 rfl ?_
  refine gf_X8_38 eX8_setBound_22 ?_
  refine c_X8_134 eX8_setBound_25 (ct_rem (hI hL1) (fun M1 hR hL9 => ?_))
  obtain ⟨tsi, tbr, thn, thr, tri⟩ := id hL9
  have tsm := tsi.1
  have tpv := BR.pv tsm.1 tbr
  have e6 : M1 6 1 = M 6 1 := hR.k hhn.1 (by decide) (by omega)
  have e5 : M1 5 1 = M 5 1 := hR.k hhn.1 (by decide) (by omega)
  refine wp_aload_n eX8_setBound_28 rfl ?_
  refine gf_X8_38 eX8_setBound_29 ?_
  refine gf_X8_112 eX8_setBound_32 ?_
  refine gf_X8_152 eX8_setBound_35 ?_
  refine wp_iload_n eX8_setBound_38 rfl ?_
  refine al_10 eX8_setBound_39 ?_
  refine ist_3 eX8_setBound_40 ?_
  refine wp_aload_n eX8_setBound_41 rfl ?_
  refine gf_X8_38 eX8_setBound_42 ?_
  refine gf_X8_112 eX8_setBound_45 ?_
  refine gf_X8_152 eX8_setBound_48 ?_
  refine wp_iload_n eX8_setBound_51 rfl ?_
  refine wp_iload_n eX8_setBound_52 rfl ?_
  refine as_10 eX8_setBound_53 ?_
  refine wp_iload_n eX8_setBound_54 rfl ?_
  refine wp_ireturn eX8_setBound_55 ?_
  exact k3 hL1 (by omega) M1 hR hL9
theorem SV.fr {dk fr : Int → Int} {nd ni sg ln x v : Int} (h : SV dk fr nd ni sg ln) (hv : 1 ≤ v ∧ v ≤ 6) : SV dk (bc_u fr x v) nd ni sg ln := ⟨h.1, h.2.1, h.2.2.1, h.2.2.2.1, fun d a b => by
  by_cases hd : d = x
  · subst hd; rw [u_at]; exact hv
  · rw [u_ne hd]; exact h.2.2.2.2.1 d a b, h.2.2.2.2.2⟩
theorem SV.dk {dk fr : Int → Int} {nd ni sg ln x v : Int} (h : SV dk fr nd ni sg ln) (hv : 0 ≤ v ∧ v < nd) : SV (bc_u dk x v) fr nd ni sg ln := ⟨h.1, h.2.1, h.2.2.1, h.2.2.2.1, h.2.2.2.2.1, fun d a b => by
  by_cases hd : d = x
  · subst hd; rw [u_at]; exact hv
  · rw [u_ne hd]; exact h.2.2.2.2.2 d a b⟩
theorem SV.ix {dk fr : Int → Int} {nd ni sg ln sg' ln' : Int} (h : SV dk fr nd ni sg ln) (hs : 0 ≤ sg' ∧ sg' ≤ 8) (hl : 1 ≤ ln' ∧ ln' ≤ 4) : SV dk fr nd ni sg' ln' := ⟨h.1, h.2.1, hs, hl, h.2.2.2.2⟩
theorem ct_setFrequency {G : bc_G} {M : bc_M} {post : bc_R → bc_M → Prop} {n : Int} {x v : Int} (h_x : -2147483648 ≤ x ∧ x < 2147483648) (h_v : -2147483648 ≤ v ∧ v < 2147483648) (hl : M 1 0 3 = 0 ∨ M 1 0 3 = 1) (hI : M 1 0 3 = 1 → LI M n) (k1 : M 1 0 3 = 0 → post (.inl "java/lang/IllegalStateException") M) (k2 : M 1 0 3 = 1 → (x < 0 ∨ M 6 1 2 ≤ x) ∨ (v < 1 ∨ 6 < v) → post (.inl "java/lang/IllegalArgumentException") M) (k3 : M 1 0 3 = 1 → ¬ ((x < 0 ∨ M 6 1 2 ≤ x) ∨ (v < 1 ∨ 6 < v)) → ∀ M1 : bc_M, REM M M1 → LI M1 n → ∀ M2 : bc_M, Fr (bpP 0) (bc_up M1 7 1 x v) M2 → BS M2 0 1 → post (.inr (some (vI (M1 7 1 x)))) M2) : bc_Call G yX8_setFrequency cX8_setFrequency 4 (some .int) 9 3 [vR G 1 0, vI x, vI v] M post := by
  refine bc_enter (L := [some (vR G 1 0), some (vI x), some (vI v), none]) (by decide) rfl rfl ?_
  refine wp_aload_n eX8_setFrequency_0 rfl ?_
  refine cx_X8_125 eX8_setFrequency_1 (ct_needCarousel k1 (fun hc0 => ?_))
  have hL1 : M 1 0 3 = 1 := by omega
  obtain ⟨hsi, hbr, hhn, hhr, hri⟩ := hI hL1
  have hsm := hsi.1
  have hni := hsm.1.2.1
  have hnd := hsm.1.1
  have hls := hsi.2.2.1
  have hpv := BR.pv hsm.1 hbr
  refine wp_aload_n eX8_setFrequency_4 rfl ?_
  refine wp_iload_n eX8_setFrequency_5 rfl ?_
  refine cx_X8_155 eX8_setFrequency_6 (ct_needDisk (fun h => k2 hL1 (by omega)) (fun g6a g6b => ?_))
  refine wp_iload_n eX8_setFrequency_9 rfl ?_
  refine wp_iconst eX8_setFrequency_10 ?_
  refine wp_bipush eX8_setFrequency_11 ?_
  refine cx_X8_97 eX8_setFrequency_13 (ct_needRange (fun h => k2 hL1 (by omega)) (fun g13a g13b => ?_))
  refine wp_aload_n eX8_setFrequency_16 rfl ?_
  refine gf_X8_44 eX8_setFrequency_17 ?_
  refine wp_aload_n eX8_setFrequency_20 rfl ?_
  refine gf_X8_38 eX8_setFrequency_21 ?_
  refine c_X8_134 eX8_setFrequency_24 (ct_rem (hI hL1) (fun M1 hR hL9 => ?_))
  obtain ⟨tsi, tbr, thn, thr, tri⟩ := id hL9
  have tsm := tsi.1
  have tpv := BR.pv tsm.1 tbr
  have e6 : M1 6 1 = M 6 1 := hR.k hhn.1 (by decide) (by omega)
  have e5 : M1 5 1 = M 5 1 := hR.k hhn.1 (by decide) (by omega)
  refine wp_aload_n eX8_setFrequency_27 rfl ?_
  refine gf_X8_38 eX8_setFrequency_28 ?_
  refine gf_X8_112 eX8_setFrequency_31 ?_
  refine gf_X8_158 eX8_setFrequency_34 ?_
  refine wp_iload_n eX8_setFrequency_37 rfl ?_
  refine al_7 eX8_setFrequency_38 ?_
  refine ist_3 eX8_setFrequency_39 ?_
  refine wp_aload_n eX8_setFrequency_40 rfl ?_
  refine gf_X8_38 eX8_setFrequency_41 ?_
  refine gf_X8_112 eX8_setFrequency_44 ?_
  refine gf_X8_158 eX8_setFrequency_47 ?_
  refine wp_iload_n eX8_setFrequency_50 rfl ?_
  refine wp_iload_n eX8_setFrequency_51 rfl ?_
  refine as_7 eX8_setFrequency_52 ?_
  refine wp_aload_n eX8_setFrequency_53 rfl ?_
  refine gf_X8_51 eX8_setFrequency_54 ?_
  refine wp_aload_n eX8_setFrequency_57 rfl ?_
  refine gf_X8_38 eX8_setFrequency_58 ?_
  refine gf_X8_112 eX8_setFrequency_61 ?_
  refine c_X8_115 eX8_setFrequency_64 (ct_build (j := 0) (z := 1) (by omega) (by omega) (by rw [up_kne (show (9 : Nat) ≠ 7 by decide), up_kne (show (6 : Nat) ≠ 7 by decide), up_at]; exact tsm.1.fr (by omega)) rfl rfl rfl rfl rfl rfl (fun M2 hF2 hB2 => ?_))
  have hBS : BS M2 0 1 := by
    unfold BS
    rw [hF2 9 1 (by unfold bpP; omega), hF2 7 1 (by unfold bpP; omega), hF2 6 1 (by unfold bpP; omega)]
    exact hB2
  refine wp_iload_n eX8_setFrequency_67 rfl ?_
  refine wp_ireturn eX8_setFrequency_68 ?_
  exact k3 hL1 (by omega) M1 hR hL9 M2 hF2 hBS
theorem ct_moveItem {G : bc_G} {M : bc_M} {post : bc_R → bc_M → Prop} {n : Int} {i x : Int} (h_i : -2147483648 ≤ i ∧ i < 2147483648) (h_x : -2147483648 ≤ x ∧ x < 2147483648) (hl : M 1 0 3 = 0 ∨ M 1 0 3 = 1) (hI : M 1 0 3 = 1 → LI M n) (k1 : M 1 0 3 = 0 → post (.inl "java/lang/IllegalStateException") M) (k2 : M 1 0 3 = 1 → (i < 0 ∨ M 6 1 3 ≤ i) ∨ (x < 0 ∨ M 6 1 2 ≤ x) → post (.inl "java/lang/IllegalArgumentException") M) (k3 : M 1 0 3 = 1 → ¬ ((i < 0 ∨ M 6 1 3 ≤ i) ∨ (x < 0 ∨ M 6 1 2 ≤ x)) → ∀ M1 : bc_M, REM M M1 → LI M1 n → ∀ M2 : bc_M, Fr (bpP 0) (bc_up M1 9 1 i x) M2 → BS M2 0 1 → post (.inr (some (vI (M1 9 1 i)))) M2) : bc_Call G yX8_moveItem cX8_moveItem 4 (some .int) 9 3 [vR G 1 0, vI i, vI x] M post := by
  refine bc_enter (L := [some (vR G 1 0), some (vI i), some (vI x), none]) (by decide) rfl rfl ?_
  refine wp_aload_n eX8_moveItem_0 rfl ?_
  refine cx_X8_125 eX8_moveItem_1 (ct_needCarousel k1 (fun hc0 => ?_))
  have hL1 : M 1 0 3 = 1 := by omega
  obtain ⟨hsi, hbr, hhn, hhr, hri⟩ := hI hL1
  have hsm := hsi.1
  have hni := hsm.1.2.1
  have hnd := hsm.1.1
  have hls := hsi.2.2.1
  have hpv := BR.pv hsm.1 hbr
  refine wp_aload_n eX8_moveItem_4 rfl ?_
  refine wp_iload_n eX8_moveItem_5 rfl ?_
  refine cx_X8_131 eX8_moveItem_6 (ct_needItem (fun h => k2 hL1 (by omega)) (fun g6a g6b => ?_))
  refine wp_aload_n eX8_moveItem_9 rfl ?_
  refine wp_iload_n eX8_moveItem_10 rfl ?_
  refine cx_X8_155 eX8_moveItem_11 (ct_needDisk (fun h => k2 hL1 (by omega)) (fun g11a g11b => ?_))
  refine wp_aload_n eX8_moveItem_14 rfl ?_
  refine gf_X8_44 eX8_moveItem_15 ?_
  refine wp_aload_n eX8_moveItem_18 rfl ?_
  refine gf_X8_38 eX8_moveItem_19 ?_
  refine c_X8_134 eX8_moveItem_22 (ct_rem (hI hL1) (fun M1 hR hL9 => ?_))
  obtain ⟨tsi, tbr, thn, thr, tri⟩ := id hL9
  have tsm := tsi.1
  have tpv := BR.pv tsm.1 tbr
  have e6 : M1 6 1 = M 6 1 := hR.k hhn.1 (by decide) (by omega)
  have e5 : M1 5 1 = M 5 1 := hR.k hhn.1 (by decide) (by omega)
  refine wp_aload_n eX8_moveItem_25 rfl ?_
  refine gf_X8_38 eX8_moveItem_26 ?_
  refine gf_X8_112 eX8_moveItem_29 ?_
  refine gf_X8_170 eX8_moveItem_32 ?_
  refine wp_iload_n eX8_moveItem_35 rfl ?_
  refine al_9 eX8_moveItem_36 ?_
  refine ist_3 eX8_moveItem_37 ?_
  refine wp_aload_n eX8_moveItem_38 rfl ?_
  refine gf_X8_38 eX8_moveItem_39 ?_
  refine gf_X8_112 eX8_moveItem_42 ?_
  refine gf_X8_170 eX8_moveItem_45 ?_
  refine wp_iload_n eX8_moveItem_48 rfl ?_
  refine wp_iload_n eX8_moveItem_49 rfl ?_
  refine as_9 eX8_moveItem_50 ?_
  refine wp_aload_n eX8_moveItem_51 rfl ?_
  refine gf_X8_51 eX8_moveItem_52 ?_
  refine wp_aload_n eX8_moveItem_55 rfl ?_
  refine gf_X8_38 eX8_moveItem_56 ?_
  refine gf_X8_112 eX8_moveItem_59 ?_
  refine c_X8_115 eX8_moveItem_62 (ct_build (j := 0) (z := 1) (by omega) (by omega) (by rw [up_kne (show (7 : Nat) ≠ 9 by decide), up_kne (show (6 : Nat) ≠ 9 by decide), up_at]; exact tsm.1.dk (by rw [e6]; omega)) rfl rfl rfl rfl rfl rfl (fun M2 hF2 hB2 => ?_))
  have hBS : BS M2 0 1 := by
    unfold BS
    rw [hF2 9 1 (by unfold bpP; omega), hF2 7 1 (by unfold bpP; omega), hF2 6 1 (by unfold bpP; omega)]
    exact hB2
  refine wp_iload_n eX8_moveItem_65 rfl ?_
  refine wp_ireturn eX8_moveItem_66 ?_
  exact k3 hL1 (by omega) M1 hR hL9 M2 hF2 hBS
theorem ct_setIndex {G : bc_G} {M : bc_M} {post : bc_R → bc_M → Prop} {n : Int} {s v : Int} (h_s : -2147483648 ≤ s ∧ s < 2147483648) (h_v : -2147483648 ≤ v ∧ v < 2147483648) (hl : M 1 0 3 = 0 ∨ M 1 0 3 = 1) (hI : M 1 0 3 = 1 → LI M n) (k1 : M 1 0 3 = 0 → post (.inl "java/lang/IllegalStateException") M) (k2 : M 1 0 3 = 1 → (s < 0 ∨ 8 < s) ∨ (v < 1 ∨ 4 < v) → post (.inl "java/lang/IllegalArgumentException") M) (k3 : M 1 0 3 = 1 → ¬ ((s < 0 ∨ 8 < s) ∨ (v < 1 ∨ 4 < v)) → ∀ M1 : bc_M, REM M M1 → LI M1 n → ∀ M2 : bc_M, Fr (bpP 0) (bc_up (bc_up M1 6 1 0 s) 6 1 1 v) M2 → BS M2 0 1 → post (.inr (some (vI (M2 17 0 0)))) M2) : bc_Call G yX8_setIndex cX8_setIndex 3 (some .int) 9 3 [vR G 1 0, vI s, vI v] M post := by
  refine bc_enter (L := [some (vR G 1 0), some (vI s), some (vI v)]) (by decide) rfl rfl ?_
  refine wp_aload_n eX8_setIndex_0 rfl ?_
  refine cx_X8_125 eX8_setIndex_1 (ct_needCarousel k1 (fun hc0 => ?_))
  have hL1 : M 1 0 3 = 1 := by omega
  obtain ⟨hsi, hbr, hhn, hhr, hri⟩ := hI hL1
  have hsm := hsi.1
  have hni := hsm.1.2.1
  have hnd := hsm.1.1
  have hls := hsi.2.2.1
  have hpv := BR.pv hsm.1 hbr
  refine wp_iload_n eX8_setIndex_4 rfl ?_
  refine wp_iconst eX8_setIndex_5 ?_
  refine wp_bipush eX8_setIndex_6 ?_
  refine cx_X8_97 eX8_setIndex_8 (ct_needRange (fun h => k2 hL1 (by omega)) (fun g8a g8b => ?_))
  refine wp_iload_n eX8_setIndex_11 rfl ?_
  refine wp_iconst eX8_setIndex_12 ?_
  refine wp_iconst eX8_setIndex_13 ?_
  refine cx_X8_97 eX8_setIndex_14 (ct_needRange (fun h => k2 hL1 (by omega)) (fun g14a g14b => ?_))
  refine wp_aload_n eX8_setIndex_17 rfl ?_
  refine gf_X8_44 eX8_setIndex_18 ?_
  refine wp_aload_n eX8_setIndex_21 rfl ?_
  refine gf_X8_38 eX8_setIndex_22 ?_
  refine c_X8_134 eX8_setIndex_25 (ct_rem (hI hL1) (fun M1 hR hL9 => ?_))
  obtain ⟨tsi, tbr, thn, thr, tri⟩ := id hL9
  have tsm := tsi.1
  have tpv := BR.pv tsm.1 tbr
  have e6 : M1 6 1 = M 6 1 := hR.k hhn.1 (by decide) (by omega)
  have e5 : M1 5 1 = M 5 1 := hR.k hhn.1 (by decide) (by omega)
  refine wp_aload_n eX8_setIndex_28 rfl ?_
  refine gf_X8_38 eX8_setIndex_29 ?_
  refine gf_X8_112 eX8_setIndex_32 ?_
  refine wp_iload_n eX8_setIndex_35 rfl ?_
  refine pf_X8_161 eX8_setIndex_36 ?_
  refine wp_aload_n eX8_setIndex_39 rfl ?_
  refine gf_X8_38 eX8_setIndex_40 ?_
  refine gf_X8_112 eX8_setIndex_43 ?_
  refine wp_iload_n eX8_setIndex_46 rfl ?_
  refine pf_X8_164 eX8_setIndex_47 ?_
  refine wp_aload_n eX8_setIndex_50 rfl ?_
  refine gf_X8_51 eX8_setIndex_51 ?_
  refine wp_aload_n eX8_setIndex_54 rfl ?_
  refine gf_X8_38 eX8_setIndex_55 ?_
  refine gf_X8_112 eX8_setIndex_58 ?_
  refine c_X8_115 eX8_setIndex_61 (ct_build (j := 0) (z := 1) (by omega) (by omega) (by rw [up_kne (show (9 : Nat) ≠ 6 by decide), up_kne (show (9 : Nat) ≠ 6 by decide), up_kne (show (7 : Nat) ≠ 6 by decide), up_kne (show (7 : Nat) ≠ 6 by decide)]; simp only [up_v, show ((0 : Int) = 1) = False by decide, show ((2 : Int) = 1) = False by decide, show ((2 : Int) = 0) = False by decide, show ((3 : Int) = 1) = False by decide, show ((3 : Int) = 0) = False by decide, if_true, if_false]; exact tsm.1.ix (by omega) (by omega)) rfl rfl rfl rfl rfl rfl (fun M2 hF2 hB2 => ?_))
  have hBS : BS M2 0 1 := by
    unfold BS
    rw [hF2 9 1 (by unfold bpP; omega), hF2 7 1 (by unfold bpP; omega), hF2 6 1 (by unfold bpP; omega)]
    exact hB2
  refine wp_aload_n eX8_setIndex_64 rfl ?_
  refine gf_X8_51 eX8_setIndex_65 ?_
  refine gf_X8_167 eX8_setIndex_68 ?_
  refine wp_ireturn eX8_setIndex_71 ?_
  exact k3 hL1 (by omega) M1 hR hL9 M2 hF2 hBS
theorem note_eq {M M1 : bc_M} {c i : Int} (g1 : Fr (CLP c) M M1) (g2 : ∀ f, f ≠ 8 → M1 12 c f = M 12 c f) (g3 : M1 12 c 8 = M 12 c 8 + 1) (g4 : M1 13 c = bc_u (M 13 c) i (M 13 c i + 1)) (g5 : M1 14 c = bc_u (M 14 c) i (M 12 c 8 + 1)) : M1 = ask1 M c i := ext_M (fun k9 j9 f9 => by
  by_cases hj9 : j9 = c
  · subst hj9
    by_cases hk9 : k9 = 12
    · subst hk9
      rw [ask1_12]
      by_cases hf9 : f9 = 8
      · subst hf9; rw [g3, u_at]
      · rw [g2 _ hf9, u_ne hf9]
    · by_cases hk9 : k9 = 13
      · subst hk9; rw [ask1_13, g4]
      · by_cases hk9 : k9 = 14
        · subst hk9; rw [ask1_14, g5]
        · rw [g1 _ _ (by unfold CLP; omega), ask1_o (by omega)]
  · rw [g1 _ _ (by unfold CLP; omega)]
    unfold ask1
    rw [up_jne hj9, up_jne hj9, up_jne hj9])
theorem ask1_fr {M : bc_M} {c i : Int} : Fr (CLP c) M (ask1 M c i) := by
  intro k' j' hn
  unfold CLP at hn
  unfold ask1
  simp only [bc_up, if_neg (show ¬ (k' = 12 ∧ j' = c) by omega), if_neg (show ¬ (k' = 13 ∧ j' = c) by omega), if_neg (show ¬ (k' = 14 ∧ j' = c) by omega)]
theorem ask1_cong {M' M : bc_M} {a b i : Int} (h : cliEq M' a M b) : cliEq (ask1 M' a i) a (ask1 M b i) b := by
  refine ⟨?_, ?_, fun f x y => ?_⟩
  · rw [ask1_13, ask1_13, h.1]
  · rw [ask1_14, ask1_14, h.2.1, h.2.2 8 (by decide) (by decide)]
  · rw [ask1_12, ask1_12]
    by_cases h8 : f = 8
    · subst h8; rw [u_at, u_at, h.2.2 8 (by decide) (by decide)]
    · rw [u_ne h8, u_ne h8]; exact h.2.2 f x y
theorem cl_rem_cong {M' M : bc_M} {a b z i : Int} (h : cliEq M' a M b) (hs : sameSP M' M z) : cl_rem M' a z i = cl_rem M b z i := by
  have h0 := h.2.2 0 (by decide) (by decide)
  have h1 := h.2.2 1 (by decide) (by decide)
  have h7 := h.2.2 7 (by decide) (by decide)
  have hl : ∀ x y, cl_less M' a z x y = cl_less M b z x y := fun x y => by
    unfold cl_less
    rw [h.1, h.2.1, h1, hs.1 7 (by decide), hs.1 8 (by decide), hs.1 9 (by decide)]
  have hv : ∀ (s : Int) (n : Nat) (q r : Int), cl_vic M' a z s n q r = cl_vic M b z s n q r := by
    intro s n
    induction n with
    | zero => intro q r; rfl
    | succ n ih => intro q r; simp only [cl_vic, hl, ih]
  unfold cl_rem cl_set
  rw [h0, h7, hs.1 6 (by decide), hv]
theorem ct_victim {G : bc_G} {M : bc_M} {post : bc_R → bc_M → Prop} {n : Int} {c i : Int} (h_c : -2147483648 ≤ c ∧ c < 2147483648) (h_i : -2147483648 ≤ i ∧ i < 2147483648) (hl : M 1 0 3 = 0 ∨ M 1 0 3 = 1) (hI : M 1 0 3 = 1 → LI M n) (k1 : M 1 0 3 = 0 → post (.inl "java/lang/IllegalStateException") M) (k2 : M 1 0 3 = 1 → (c < 0 ∨ M 5 1 1 ≤ c) ∨ (i < 0 ∨ M 6 1 3 ≤ i) → post (.inl "java/lang/IllegalArgumentException") M) (k3 : M 1 0 3 = 1 → ¬ ((c < 0 ∨ M 5 1 1 ≤ c) ∨ (i < 0 ∨ M 6 1 3 ≤ i)) → ∀ M' : bc_M, Fr (CLP 48) M M' → post (.inr (some (vI (if bs (M 12 (4 * 1 + c) 7) i = true then -2 else cl_rem (ask1 M (4 * 1 + c) i) (4 * 1 + c) 1 i)))) M') (hn9 : 0 ≤ n ∧ n ≤ 2900) : bc_Call G yX8_victim cX8_victim 3 (some .int) 9 3 [vR G 1 0, vI c, vI i] M post := by
  refine bc_enter (L := [some (vR G 1 0), some (vI c), some (vI i)]) (by decide) rfl rfl ?_
  refine wp_aload_n eX8_victim_0 rfl ?_
  refine cx_X8_125 eX8_victim_1 (ct_needCarousel k1 (fun hc0 => ?_))
  have hL1 : M 1 0 3 = 1 := by omega
  obtain ⟨hsi, hbr, hhn, hhr, hri⟩ := hI hL1
  have hsm := hsi.1
  have hni := hsm.1.2.1
  have hnd := hsm.1.1
  have hls := hsi.2.2.1
  have hpv := BR.pv hsm.1 hbr
  refine wp_aload_n eX8_victim_4 rfl ?_
  refine wp_iload_n eX8_victim_5 rfl ?_
  refine cx_X8_128 eX8_victim_6 (ct_needClient (fun h => k2 hL1 (by omega)) (fun g6a g6b => ?_))
  refine wp_aload_n eX8_victim_9 rfl ?_
  refine wp_iload_n eX8_victim_10 rfl ?_
  refine cx_X8_131 eX8_victim_11 (ct_needItem (fun h => k2 hL1 (by omega)) (fun g11a g11b => ?_))
  refine wp_aload_n eX8_victim_14 rfl ?_
  refine gf_X8_38 eX8_victim_15 ?_
  refine gf_X8_137 eX8_victim_18 ?_
  refine wp_iload_n eX8_victim_21 rfl ?_
  refine al_11 eX8_victim_22 ?_
  refine gf_X8_296 eX8_victim_23 ?_
  have hcl := hsi.2.2.2 c (by omega) (by omega)
  have hc7 := hcl.2.2.2.1
  refine wp_iload_n eX8_victim_26 rfl ?_
  refine c_X8_240 eX8_victim_27 (ct_isIn ?_)
  refine wp_if_eq eX8_victim_30 (fun c30 => ?_) (fun c30 => ?_) (by split <;> omega)
  · have hb : ¬ bs (M 12 (4 * 1 + c) 7) i = true := by
      intro h
      rw [h] at c30
      exact absurd c30 (by decide)
    refine wp_aload_n eX8_victim_36 rfl ?_
    refine gf_X8_68 eX8_victim_37 ?_
    refine wp_aload_n eX8_victim_40 rfl ?_
    refine gf_X8_38 eX8_victim_41 ?_
    refine gf_X8_137 eX8_victim_44 ?_
    refine wp_iload_n eX8_victim_47 rfl ?_
    refine al_11 eX8_victim_48 ?_
    refine c_X8_302 eX8_victim_49 (ct_cliCopy (a := 48) (b := 4 * 1 + c) (by omega) (by omega) (by omega) (fun M1 hF1 hE1 => ?_))
    refine wp_aload_n eX8_victim_52 rfl ?_
    refine gf_X8_68 eX8_victim_53 ?_
    refine wp_iload_n eX8_victim_56 rfl ?_
    refine c_X8_305 eX8_victim_57 (ct_note (c := 48) (by omega) (by omega) (fun M2 g1 g2 g3 g4 g5 => ?_))
    have hM2 : M2 = ask1 M1 48 i := note_eq g1 g2 g3 g4 g5
    subst hM2
    have sm1 : SM (ask1 M1 48 i) 1 := SM_fr hsm (fun k9 h9 => by rw [ask1_o (by omega), hF1 k9 1 (by unfold CLP; omega)])
    have cn1 : CN (ask1 M1 48 i) 48 (n + 1) := ask1_cn (CN_cong hE1 hcl)
    have q6 : ask1 M1 48 i 6 1 = M 6 1 := by rw [ask1_o (by omega), hF1 6 1 (by unfold CLP; omega)]
    refine wp_aload_n eX8_victim_60 rfl ?_
    refine gf_X8_68 eX8_victim_61 ?_
    refine wp_iload_n eX8_victim_64 rfl ?_
    refine wp_aload_n eX8_victim_65 rfl ?_
    refine gf_X8_38 eX8_victim_66 ?_
    refine gf_X8_112 eX8_victim_69 ?_
    refine c_X8_308 eX8_victim_72 (ct_admit (c := 48) (z := 1) (by omega) (by omega) sm1 (cn1.cv (by omega)) (by rw [q6]; omega) (fun M3 g1 g2 g3 => ?_))
    refine wp_ireturn eX8_victim_75 ?_
    have k4 := k3 hL1 (by omega) M3 (Fr.tr (Fr.tr hF1 ask1_fr) (g1.mono (fun k9 j9 h9 => ⟨Or.inl h9.1, h9.2⟩)))
    have e9 := cl_rem_cong (z := 1) (i := i) (ask1_cong (i := i) hE1) ⟨fun k9 h9 => by rw [ask1_o (by omega), ask1_o (by omega), hF1 k9 1 (by unfold CLP; omega)], fun k9 q9 h9 => by rw [ask1_o (by omega), ask1_o (by omega), hF1 k9 q9 (by unfold CLP; omega)]⟩
    rw [if_neg hb, ← e9] at k4
    exact k4
  · have hb : bs (M 12 (4 * 1 + c) 7) i = true := by
      cases h : bs (M 12 (4 * 1 + c) 7) i
      · rw [h] at c30; exact absurd rfl c30
      · rfl
    refine wp_bipush eX8_victim_33 ?_
    refine wp_ireturn eX8_victim_35 ?_
    have k4 := k3 hL1 (by omega) M Fr.rf
    rw [if_pos hb] at k4
    exact k4
def plR (M : bc_M) (c s : Int) : Int × (Int → Int) := (pl (fun g => taM (4 * 1 + c) 1 0 g (or_first s (M 6 1 3).toNat 0 0 (M 32 0)).1.toNat 0 M 12 (4 * 1 + c) 2) (or_first s (M 6 1 3).toNat 0 0 (M 32 0)).1 120 0 (or_first s (M 6 1 3).toNat 0 0 (M 32 0)).2 (M 30 0 0) (M 31 0))
theorem ct_planTime {G : bc_G} {M : bc_M} {post : bc_R → bc_M → Prop} {n : Int} {c s : Int} (h_c : -2147483648 ≤ c ∧ c < 2147483648) (h_s : -2147483648 ≤ s ∧ s < 2147483648) (hl : M 1 0 3 = 0 ∨ M 1 0 3 = 1) (hI : M 1 0 3 = 1 → LI M n) (k1 : M 1 0 3 = 0 → post (.inl "java/lang/IllegalStateException") M) (k2 : M 1 0 3 = 1 → (c < 0 ∨ M 5 1 1 ≤ c) ∨ (s < 1 ∨ p2 (M 6 1 3) ≤ s ∨ bs_cnt s 16 < 1 ∨ 5 < bs_cnt s 16) → post (.inl "java/lang/IllegalArgumentException") M) (k3 : M 1 0 3 = 1 → ¬ ((c < 0 ∨ M 5 1 1 ≤ c) ∨ (s < 1 ∨ p2 (M 6 1 3) ≤ s ∨ bs_cnt s 16 < 1 ∨ 5 < bs_cnt s 16)) → ∀ M' : bc_M, Fr plP M M' → post (.inr (some (vI ((plR M c s).1)))) M') (hn9 : 0 ≤ n ∧ n ≤ 2800) : bc_Call G yX8_planTime cX8_planTime 3 (some .int) 9 4 [vR G 1 0, vI c, vI s] M post := by
  refine bc_enter (L := [some (vR G 1 0), some (vI c), some (vI s)]) (by decide) rfl rfl ?_
  refine wp_aload_n eX8_planTime_0 rfl ?_
  refine cx_X8_125 eX8_planTime_1 (ct_needCarousel k1 (fun hc0 => ?_))
  have hL1 : M 1 0 3 = 1 := by omega
  obtain ⟨hsi, hbr, hhn, hhr, hri⟩ := hI hL1
  have hsm := hsi.1
  have hni := hsm.1.2.1
  have hnd := hsm.1.1
  have hls := hsi.2.2.1
  have hpv := BR.pv hsm.1 hbr
  refine wp_aload_n eX8_planTime_4 rfl ?_
  refine wp_iload_n eX8_planTime_5 rfl ?_
  refine cx_X8_128 eX8_planTime_6 (ct_needClient (fun h => k2 hL1 (by omega)) (fun g6a g6b => ?_))
  refine wp_aload_n eX8_planTime_9 rfl ?_
  refine wp_iload_n eX8_planTime_10 rfl ?_
  refine wp_iconst eX8_planTime_11 ?_
  refine cx_X8_233 eX8_planTime_12 (ct_needSet (by omega) (fun h => k2 hL1 (by omega)) (fun gS => ?_) h_s (by omega))
  have hp2 := p2_rng (n := M 6 1 3) (by omega)
  refine wp_aload_n eX8_planTime_15 rfl ?_
  refine gf_X8_82 eX8_planTime_16 ?_
  refine wp_aload_n eX8_planTime_19 rfl ?_
  refine gf_X8_38 eX8_planTime_20 ?_
  refine gf_X8_137 eX8_planTime_23 ?_
  refine wp_iload_n eX8_planTime_26 rfl ?_
  refine al_11 eX8_planTime_27 ?_
  refine wp_iload_n eX8_planTime_28 rfl ?_
  refine wp_aload_n eX8_planTime_29 rfl ?_
  refine gf_X8_38 eX8_planTime_30 ?_
  refine gf_X8_112 eX8_planTime_33 ?_
  refine wp_aload_n eX8_planTime_36 rfl ?_
  refine gf_X8_51 eX8_planTime_37 ?_
  refine c_X8_318 eX8_planTime_40 (ct_find (c := 4 * 1 + c) (z := 1) (j := 0) (ni := M 6 1 3) (mm := n) (by omega) (by omega) (by omega) (by omega) hsm hpv.1 rfl (hsi.2.2.2 c (by omega) (by omega)) (by omega) (fun M1 hF1 q0 q1 q2 => ?_))
  refine wp_aload_n eX8_planTime_43 rfl ?_
  refine gf_X8_82 eX8_planTime_44 ?_
  refine gf_X8_322 eX8_planTime_47 ?_
  refine wp_ireturn eX8_planTime_50 ?_
  rw [q0]
  exact k3 hL1 (by omega) M1 hF1
theorem ct_planItem {G : bc_G} {M : bc_M} {post : bc_R → bc_M → Prop} {n : Int} {c s x : Int} (h_c : -2147483648 ≤ c ∧ c < 2147483648) (h_s : -2147483648 ≤ s ∧ s < 2147483648) (h_x : -2147483648 ≤ x ∧ x < 2147483648) (hl : M 1 0 3 = 0 ∨ M 1 0 3 = 1) (hI : M 1 0 3 = 1 → LI M n) (k1 : M 1 0 3 = 0 → post (.inl "java/lang/IllegalStateException") M) (k2 : M 1 0 3 = 1 → (c < 0 ∨ M 5 1 1 ≤ c) ∨ (s < 1 ∨ p2 (M 6 1 3) ≤ s ∨ bs_cnt s 16 < 1 ∨ 5 < bs_cnt s 16) ∨ x < 0 → post (.inl "java/lang/IllegalArgumentException") M) (k3 : M 1 0 3 = 1 → ¬ ((c < 0 ∨ M 5 1 1 ≤ c) ∨ (s < 1 ∨ p2 (M 6 1 3) ≤ s ∨ bs_cnt s 16 < 1 ∨ 5 < bs_cnt s 16) ∨ x < 0) → ∀ M' : bc_M, Fr plP M M' → post (.inr (some (vI (if bs_cnt s 16 ≤ x ∨ 5 ≤ x then -2 else (plR M c s).2 x)))) M') (hn9 : 0 ≤ n ∧ n ≤ 2800) : bc_Call G yX8_planItem cX8_planItem 4 (some .int) 9 5 [vR G 1 0, vI c, vI s, vI x] M post := by
  refine bc_enter (L := [some (vR G 1 0), some (vI c), some (vI s), some (vI x)]) (by decide) rfl rfl ?_
  refine wp_aload_n eX8_planItem_0 rfl ?_
  refine cx_X8_125 eX8_planItem_1 (ct_needCarousel k1 (fun hc0 => ?_))
  have hL1 : M 1 0 3 = 1 := by omega
  obtain ⟨hsi, hbr, hhn, hhr, hri⟩ := hI hL1
  have hsm := hsi.1
  have hni := hsm.1.2.1
  have hnd := hsm.1.1
  have hls := hsi.2.2.1
  have hpv := BR.pv hsm.1 hbr
  refine wp_aload_n eX8_planItem_4 rfl ?_
  refine wp_iload_n eX8_planItem_5 rfl ?_
  refine cx_X8_128 eX8_planItem_6 (ct_needClient (fun h => k2 hL1 (by omega)) (fun g6a g6b => ?_))
  refine wp_aload_n eX8_planItem_9 rfl ?_
  refine wp_iload_n eX8_planItem_10 rfl ?_
  refine wp_iconst eX8_planItem_11 ?_
  refine cx_X8_233 eX8_planItem_12 (ct_needSet (by omega) (fun h => k2 hL1 (by omega)) (fun gS => ?_) h_s (by omega))
  have hp2 := p2_rng (n := M 6 1 3) (by omega)
  refine wp_iload_n eX8_planItem_15 rfl ?_
  refine cx_X8_325 eX8_planItem_16 (ct_needNotNegative (fun h => k2 hL1 (by omega)) (fun g16a => ?_))
  refine wp_iload_n eX8_planItem_19 rfl ?_
  refine wp_iload_n eX8_planItem_20 rfl ?_
  refine c_X8_267 eX8_planItem_21 (ct_bitCount ?_)
  have hbc := bs_cnt_rng s 16
  refine wp_icmp_ge eX8_planItem_24 (fun c24 => ?_) (fun c24 => ?_)
  · refine wp_bipush eX8_planItem_32 ?_
    refine wp_ireturn eX8_planItem_34 ?_
    have k4 := k3 hL1 (by omega) M Fr.rf
    rw [if_pos (by omega)] at k4
    exact k4
  · refine wp_iload_n eX8_planItem_27 rfl ?_
    refine wp_iconst eX8_planItem_28 ?_
    refine wp_icmp_lt eX8_planItem_29 (fun c29 => ?_) (fun c29 => ?_)
    · refine wp_aload_n eX8_planItem_35 rfl ?_
      refine gf_X8_82 eX8_planItem_36 ?_
      refine wp_aload_n eX8_planItem_39 rfl ?_
      refine gf_X8_38 eX8_planItem_40 ?_
      refine gf_X8_137 eX8_planItem_43 ?_
      refine wp_iload_n eX8_planItem_46 rfl ?_
      refine al_11 eX8_planItem_47 ?_
      refine wp_iload_n eX8_planItem_48 rfl ?_
      refine wp_aload_n eX8_planItem_49 rfl ?_
      refine gf_X8_38 eX8_planItem_50 ?_
      refine gf_X8_112 eX8_planItem_53 ?_
      refine wp_aload_n eX8_planItem_56 rfl ?_
      refine gf_X8_51 eX8_planItem_57 ?_
      refine c_X8_318 eX8_planItem_60 (ct_find (c := 4 * 1 + c) (z := 1) (j := 0) (ni := M 6 1 3) (mm := n) (by omega) (by omega) (by omega) (by omega) hsm hpv.1 rfl (hsi.2.2.2 c (by omega) (by omega)) (by omega) (fun M1 hF1 q0 q1 q2 => ?_))
      refine wp_aload_n eX8_planItem_63 rfl ?_
      refine gf_X8_82 eX8_planItem_64 ?_
      refine gf_X8_328 eX8_planItem_67 ?_
      refine wp_iload_n eX8_planItem_70 rfl ?_
      refine al_31 eX8_planItem_71 ?_
      refine wp_ireturn eX8_planItem_72 ?_
      rw [q1]
      have k4 := k3 hL1 (by omega) M1 hF1
      rw [if_neg (by omega)] at k4
      exact k4
    · refine wp_bipush eX8_planItem_32 ?_
      refine wp_ireturn eX8_planItem_34 ?_
      have k4 := k3 hL1 (by omega) M Fr.rf
      rw [if_pos (by omega)] at k4
      exact k4
