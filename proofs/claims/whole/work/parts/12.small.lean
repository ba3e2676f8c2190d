theorem ct_max {G : bc_G} {M : bc_M} {post : bc_R → bc_M → Prop} {a b : Int} (k : post (.inr (some (vI (max a b)))) M) (ha : -2147483648 ≤ a ∧ a < 2147483648 := by omega) (hb : -2147483648 ≤ b ∧ b < 2147483648 := by omega) : bc_Call G yJ9_max_7cf53 cJ9_max_7cf53 2 (some .int) 1 0 [vI a, vI b] M post := by
  refine bc_enterF (L := [some (vI a), some (vI b)]) (by decide +kernel) rfl rfl ?_
  refine wp_iload_n eJ9_max_7cf53_0 rfl ?_
  refine wp_iload_n eJ9_max_7cf53_1 rfl ?_
  refine wp_icmp_lt eJ9_max_7cf53_2 (fun c2 => ?_) (fun c2 => ?_)
  · rw [show max a b = b by omega] at k
    refine wp_iload_n eJ9_max_7cf53_9 rfl ?_
    refine wp_ireturn eJ9_max_7cf53_10 ?_
    exact k
  · rw [show max a b = a by omega] at k
    refine wp_iload_n eJ9_max_7cf53_5 rfl ?_
    refine wp_goto eJ9_max_7cf53_6 ?_
    refine wp_ireturn eJ9_max_7cf53_10 ?_
    exact k
theorem ct_min {G : bc_G} {M : bc_M} {post : bc_R → bc_M → Prop} {a b : Int} (k : post (.inr (some (vI (min a b)))) M) (ha : -2147483648 ≤ a ∧ a < 2147483648 := by omega) (hb : -2147483648 ≤ b ∧ b < 2147483648 := by omega) : bc_Call G yJ9_min_7cf53 cJ9_min_7cf53 2 (some .int) 1 0 [vI a, vI b] M post := by
  refine bc_enterF (L := [some (vI a), some (vI b)]) (by decide +kernel) rfl rfl ?_
  refine wp_iload_n eJ9_min_7cf53_0 rfl ?_
  refine wp_iload_n eJ9_min_7cf53_1 rfl ?_
  refine wp_icmp_gt eJ9_min_7cf53_2 (fun c2 => ?_) (fun c2 => ?_)
  · rw [show min a b = b by omega] at k
    refine wp_iload_n eJ9_min_7cf53_9 rfl ?_
    refine wp_ireturn eJ9_min_7cf53_10 ?_
    exact k
  · rw [show min a b = a by omega] at k
    refine wp_iload_n eJ9_min_7cf53_5 rfl ?_
    refine wp_goto eJ9_min_7cf53_6 ?_
    refine wp_ireturn eJ9_min_7cf53_10 ?_
    exact k
theorem bs_xor_nn {a b : Int} (ha : 0 ≤ a ∧ a < 2147483648) (hb : 0 ≤ b ∧ b < 2147483648) : 0 ≤ bx_xor a b ∧ bx_xor a b < 2147483648 := by
  unfold bx_xor
  rw [bs_of ha, bs_of hb]
  have h0 : nI a.toNat ^^^ nI b.toNat = nI (a.toNat ^^^ b.toNat) := by
    apply Int32.toBitVec_inj.1
    show BitVec.ofNat 32 _ ^^^ BitVec.ofNat 32 _ = BitVec.ofNat 32 _
    apply BitVec.eq_of_getLsbD_eq
    intro i hi
    simp [hi]
  have h := Nat.xor_lt_two_pow (x := a.toNat) (y := b.toNat) (n := 31) (by omega) (by omega)
  rw [h0, bs_toInt (by omega)]
  omega
theorem ct_floorMod {G : bc_G} {M : bc_M} {post : bc_R → bc_M → Prop} {a b : Int} (k : post (.inr (some (vI (a % b)))) M) (ha : 0 ≤ a ∧ a < 2147483648 := by omega) (hb : 0 < b ∧ b < 2147483648 := by omega) : bc_Call G yJ9_floorMod_7cf53 cJ9_floorMod_7cf53 3 (some .int) 1 0 [vI a, vI b] M post := by
  refine bc_enterF (L := [some (vI a), some (vI b), none]) (by decide +kernel) rfl rfl ?_
  refine wp_iload_n eJ9_floorMod_7cf53_0 rfl ?_
  refine wp_iload_n eJ9_floorMod_7cf53_1 rfl ?_
  refine wp_irem eJ9_floorMod_7cf53_2 ?_
  refine ist_2 eJ9_floorMod_7cf53_3 ?_
  refine wp_iload_n eJ9_floorMod_7cf53_4 rfl ?_
  refine wp_iload_n eJ9_floorMod_7cf53_5 rfl ?_
  have hx := bs_xor_nn ha (b := b) (by omega)
  refine wp_ixor eJ9_floorMod_7cf53_6 ?_
  refine wp_if_ge eJ9_floorMod_7cf53_7 (fun c7 => ?_) (fun c7 => ?_)
  · refine wp_iload_n eJ9_floorMod_7cf53_18 rfl ?_
    refine wp_ireturn eJ9_floorMod_7cf53_19 ?_
    exact k
  · exact absurd hx.1 c7
theorem ct_isIn {G : bc_G} {M : bc_M} {post : bc_R → bc_M → Prop} {s i : Int} (k : post (.inr (some (vI (if bs s i then 1 else 0)))) M) (hs : 0 ≤ s ∧ s < 2147483648 := by omega) (hi : 0 ≤ i ∧ i < 32 := by omega) : bc_Call G yX8_isIn cX8_isIn 2 (some .boolean) 1 0 [vI s, vI i] M post := by
  refine bc_enter (L := [some (vI s), some (vI i)]) (by decide) rfl rfl ?_
  refine wp_iload_n eX8_isIn_0 rfl ?_
  refine wp_iload_n eX8_isIn_1 rfl ?_
  refine wp_ishr eX8_isIn_2 ?_
  refine wp_iconst eX8_isIn_3 ?_
  refine wp_iand eX8_isIn_4 ?_
  rw [bs_bit hs hi]
  refine wp_iconst eX8_isIn_5 ?_
  refine wp_icmp_ne eX8_isIn_6 (fun c6 => ?_) (fun c6 => ?_) (by split <;> omega)
  · have hb : bs s i = false := by
      cases h : bs s i
      · rfl
      · rw [h] at c6; exact absurd rfl c6
    rw [hb] at k
    refine wp_iconst eX8_isIn_13 ?_
    refine wp_zreturn eX8_isIn_14 (by decide) ?_
    exact k
  · have hb : bs s i = true := by
      cases h : bs s i
      · rw [h] at c6; exact absurd (by decide) c6
      · rfl
    rw [hb] at k
    refine wp_iconst eX8_isIn_9 ?_
    refine wp_goto eX8_isIn_10 ?_
    refine wp_zreturn eX8_isIn_14 (by decide) ?_
    exact k
theorem ct_has {G : bc_G} {M : bc_M} {post : bc_R → bc_M → Prop} {s i : Int} (k : post (.inr (some (vI (if bs s i then 1 else 0)))) M) (hs : 0 ≤ s ∧ s < 2147483648 := by omega) (hi : 0 ≤ i ∧ i < 32 := by omega) : bc_Call G yX9_has cX9_has 2 (some .boolean) 1 0 [vI s, vI i] M post := by
  refine bc_enter (L := [some (vI s), some (vI i)]) (by decide) rfl rfl ?_
  refine wp_iload_n eX9_has_0 rfl ?_
  refine wp_iload_n eX9_has_1 rfl ?_
  refine wp_ishr eX9_has_2 ?_
  refine wp_iconst eX9_has_3 ?_
  refine wp_iand eX9_has_4 ?_
  rw [bs_bit hs hi]
  refine wp_iconst eX9_has_5 ?_
  refine wp_icmp_ne eX9_has_6 (fun c6 => ?_) (fun c6 => ?_) (by split <;> omega)
  · have hb : bs s i = false := by
      cases h : bs s i
      · rfl
      · rw [h] at c6; exact absurd rfl c6
    rw [hb] at k
    refine wp_iconst eX9_has_13 ?_
    refine wp_zreturn eX9_has_14 (by decide) ?_
    exact k
  · have hb : bs s i = true := by
      cases h : bs s i
      · rw [h] at c6; exact absurd (by decide) c6
      · rfl
    rw [hb] at k
    refine wp_iconst eX9_has_9 ?_
    refine wp_goto eX9_has_10 ?_
    refine wp_zreturn eX9_has_14 (by decide) ?_
    exact k
theorem ct_lastTime {G : bc_G} {M : bc_M} {post : bc_R → bc_M → Prop} {j i : Int} (k : post (.inr (some (vI (M 21 (16 * j + i) (max 0 (M 19 j i - 1)))))) M) (hs : 1 ≤ M 19 j i ∧ M 19 j i ≤ 6 := by omega) (hi : 0 ≤ i ∧ i < 16 := by omega) (hj : 0 ≤ j ∧ j < 2 := by omega) : bc_Call G yX4_lastTime cX4_lastTime 2 (some .int) 2 0 [vR G 17 j, vI i] M post := by
  refine bc_enter (L := [some (vR G 17 j), some (vI i)]) (by decide) rfl rfl ?_
  refine wp_aload_n eX4_lastTime_0 rfl ?_
  refine gf_X4_28 eX4_lastTime_1 ?_
  refine wp_iload_n eX4_lastTime_4 rfl ?_
  refine al_19 eX4_lastTime_5 ?_
  refine wp_if_le eX4_lastTime_6 (fun c6 => ?_) (fun c6 => ?_)
  · omega
  · rw [show max 0 (M 19 j i - 1) = M 19 j i - 1 by omega] at k
    refine wp_aload_n eX4_lastTime_9 rfl ?_
    refine gf_X4_33 eX4_lastTime_10 ?_
    refine wp_iload_n eX4_lastTime_13 rfl ?_
    refine al_20 eX4_lastTime_14 ?_
    refine wp_aload_n eX4_lastTime_15 rfl ?_
    refine gf_X4_28 eX4_lastTime_16 ?_
    refine wp_iload_n eX4_lastTime_19 rfl ?_
    refine al_19 eX4_lastTime_20 ?_
    refine wp_iconst eX4_lastTime_21 ?_
    refine wp_isub eX4_lastTime_22 ?_
    refine al_21 eX4_lastTime_23 ?_
    refine wp_goto eX4_lastTime_24 ?_
    refine wp_ireturn eX4_lastTime_28 ?_
    exact k
theorem ct_inCycle {G : bc_G} {M : bc_M} {post : bc_R → bc_M → Prop} {j t : Int} (k : post (.inr (some (vI (t % M 17 j 0)))) M) (ht : 0 ≤ t ∧ t < 2147483648 := by omega) (hc : 0 < M 17 j 0 ∧ M 17 j 0 < 2147483648 := by omega) (hj : 0 ≤ j ∧ j < 2 := by omega) : bc_Call G yX4_inCycle cX4_inCycle 2 (some .int) 2 0 [vR G 17 j, vI t] M post := by
  refine bc_enter (L := [some (vR G 17 j), some (vI t)]) (by decide) rfl rfl ?_
  refine wp_aload_n eX4_inCycle_0 rfl ?_
  refine gf_X4_9 eX4_inCycle_1 ?_
  refine wp_if_le eX4_inCycle_4 (fun c4 => ?_) (fun c4 => ?_)
  · omega
  · refine wp_iload_n eX4_inCycle_7 rfl ?_
    refine wp_aload_n eX4_inCycle_8 rfl ?_
    refine gf_X4_9 eX4_inCycle_9 ?_
    refine c_X4_97 eX4_inCycle_12 (ct_floorMod ?_)
    refine wp_goto eX4_inCycle_15 ?_
    refine wp_ireturn eX4_inCycle_19 ?_
    exact k
