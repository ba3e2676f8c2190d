def p2 (n : Int) : Int := ((2 ^ n.toNat : Nat) : Int)
theorem p2_rng {n : Int} (h : 0 ≤ n ∧ n ≤ 16) : 1 ≤ p2 n ∧ p2 n ≤ 65536 := by
  unfold p2
  have h1 := Nat.two_pow_pos n.toNat
  have h2 : 2 ^ n.toNat ≤ 2 ^ 16 := Nat.pow_le_pow_right (by decide) (by omega)
  omega
def fc_of (g : Int → Int) (x : Int) : Nat → Int → Int → Int
  | 0, _, s => s
  | n + 1, i, s => fc_of g x n (i + 1) (if g i = x then bs_add s i else s)
def fc_emp (g : Int → Int) : Nat → Int → Int → Int
  | 0, _, s => s
  | n + 1, i, s => fc_emp g n (i + 1) (s - g i)
def fc_wa (M : bc_M) (i : Int) : Nat → Int → Int → Int
  | 0, _, w => w
  | n + 1, t, w => fc_wa M i n (t + 1) (max w (pg_wait M 0 i t))
def fc_wf (M : bc_M) (s t : Int) : Nat → Int → Int → Int
  | 0, _, w => w
  | n + 1, i, w => fc_wf M s t n (i + 1) (if bs s i then w + pg_wait M 0 i t else w)
def fc_wt (M : bc_M) (s : Int) : Nat → Int → Int → Int → Int
  | 0, _, b, _ => b
  | n + 1, t, b, l => if l < fc_wf M s t (M 6 1 3).toNat 0 0 then fc_wt M s n (t + 1) t (fc_wf M s t (M 6 1 3).toNat 0 0) else fc_wt M s n (t + 1) b l
def fc_lw (p g : Int → Int) : Nat → Int → Int → Int
  | 0, _, b => b
  | n + 1, i, b => fc_lw p g n (i + 1) (if p i * g b < p b * g i then i else b)
def fc_low (s : Int) : Nat → Int → Int
  | 0, _ => -2
  | n + 1, i => if bs s i then i else fc_low s n (i + 1)
def fc_near (M : bc_M) (s t : Int) : Nat → Int → Int → Int → Int
  | 0, _, b, _ => b
  | n + 1, i, b, l => if bs s i = true ∧ (b = -2 ∨ pg_wait M 0 i t < l) then fc_near M s t n (i + 1) i (pg_wait M 0 i t) else fc_near M s t n (i + 1) b l
theorem fc_wf_rng {M : bc_M} {s t ni : Int} (hp : PV M 0 ni) : ∀ (n : Nat) (i w B : Int), 0 ≤ i → i + n ≤ ni → (0 ≤ w ∧ w ≤ B) → 0 ≤ fc_wf M s t n i w ∧ fc_wf M s t n i w ≤ B + n * 9000
  | 0, i, w, B, _, _, h => by simp only [fc_wf]; omega
  | n + 1, i, w, B, h1, h2, h => by
    simp only [fc_wf]
    have a1 := pg_wait_rg2 (t := t) hp (i := i) (by omega)
    have := fc_wf_rng (s := s) (t := t) hp n (i + 1) (if bs s i then w + pg_wait M 0 i t else w) (B + 9000) (by omega) (by omega) (by split <;> omega)
    omega
theorem lp_itemsOf {G : bc_G} {M : bc_M} {post : bc_R → bc_M → Prop} {n0 : Int} (hI : LI M n0) {x : Int} (hx : 0 ≤ x ∧ x < 16) : ∀ (n : Nat) (i s : Int) (h1 : i + n = M 6 1 3) (h2 : 0 ≤ i) (hs : 0 ≤ s ∧ s < 65536) (k : post (.inr (some (vI (fc_of (M 9 1) x n i s)))) M), bc_W G RX8 cX8_itemsOf 4 (some .int) 9 2 2 13 [some (vR G 1 0), some (vI x), some (vI s), some (vI i)] [] M post := by
  intro n
  induction n with
  | zero =>
    intro i s h1 h2 hs k
    obtain ⟨hsi, hbr, hhn, hhr, hri⟩ := hI
    have hsm := hsi.1
    have hni := hsm.1.2.1
    have hnd := hsm.1.1
    have hls := hsi.2.2.1
    have hpv := BR.pv hsm.1 hbr
    refine wp_iload_n eX8_itemsOf_13 rfl ?_
    refine wp_aload_n eX8_itemsOf_14 rfl ?_
    refine gf_X8_38 eX8_itemsOf_15 ?_
    refine gf_X8_112 eX8_itemsOf_18 ?_
    refine gf_X8_122 eX8_itemsOf_21 ?_
    refine wp_icmp_ge eX8_itemsOf_24 (fun c24 => ?_) (fun c24 => ?_)
    · refine wp_iload_n eX8_itemsOf_55 rfl ?_
      refine wp_ireturn eX8_itemsOf_56 ?_
      exact k
    · omega
  | succ n ih =>
    intro i s h1 h2 hs k
    obtain ⟨hsi, hbr, hhn, hhr, hri⟩ := hI
    have hsm := hsi.1
    have hni := hsm.1.2.1
    have hnd := hsm.1.1
    have hls := hsi.2.2.1
    have hpv := BR.pv hsm.1 hbr
    refine wp_iload_n eX8_itemsOf_13 rfl ?_
    refine wp_aload_n eX8_itemsOf_14 rfl ?_
    refine gf_X8_38 eX8_itemsOf_15 ?_
    refine gf_X8_112 eX8_itemsOf_18 ?_
    refine gf_X8_122 eX8_itemsOf_21 ?_
    refine wp_icmp_ge eX8_itemsOf_24 (fun c24 => ?_) (fun c24 => ?_)
    · omega
    · refine wp_aload_n eX8_itemsOf_27 rfl ?_
      refine gf_X8_38 eX8_itemsOf_28 ?_
      refine gf_X8_112 eX8_itemsOf_31 ?_
      refine gf_X8_170 eX8_itemsOf_34 ?_
      refine wp_iload_n eX8_itemsOf_37 rfl ?_
      refine al_9 eX8_itemsOf_38 ?_
      have hd1 := hsm.1.2.2.2.2.2 i (by omega) (by omega)
      refine wp_iload_n eX8_itemsOf_39 rfl ?_
      refine wp_icmp_ne eX8_itemsOf_40 (fun c40 => ?_) (fun c40 => ?_)
      · simp only [fc_of] at k
        rw [if_neg c40] at k
        refine inc_3 eX8_itemsOf_49 ?_
        refine wp_goto eX8_itemsOf_52 ?_
        exact ih (i + 1) _ (by omega) (by omega) (by omega) k
      · simp only [fc_of] at k
        rw [if_pos (by omega)] at k
        have hsr := bs_add_rng (s := s) (i := i) (n := 16) (by omega) (by omega)
        refine wp_iload_n eX8_itemsOf_43 rfl ?_
        refine wp_iconst eX8_itemsOf_44 ?_
        refine wp_iload_n eX8_itemsOf_45 rfl ?_
        refine wp_ishl eX8_itemsOf_46 ?_
        refine wp_ior eX8_itemsOf_47 ?_
        rw [bs_or_shl ⟨by omega, by omega⟩ ⟨by omega, by omega⟩]
        refine ist_2 eX8_itemsOf_48 ?_
        refine inc_3 eX8_itemsOf_49 ?_
        refine wp_goto eX8_itemsOf_52 ?_
        exact ih (i + 1) _ (by omega) (by omega) (by omega) k
theorem ct_itemsOf {G : bc_G} {M : bc_M} {post : bc_R → bc_M → Prop} {n : Int} {x : Int} (h_x : -2147483648 ≤ x ∧ x < 2147483648) (hl : M 1 0 3 = 0 ∨ M 1 0 3 = 1) (hI : M 1 0 3 = 1 → LI M n) (k1 : M 1 0 3 = 0 → post (.inl "java/lang/IllegalStateException") M) (k2 : M 1 0 3 = 1 → (x < 0 ∨ M 6 1 2 ≤ x) → post (.inl "java/lang/IllegalArgumentException") M) (k3 : M 1 0 3 = 1 → ¬ ((x < 0 ∨ M 6 1 2 ≤ x)) → post (.inr (some (vI (fc_of (M 9 1) x (M 6 1 3).toNat 0 0)))) M) : bc_Call G yX8_itemsOf cX8_itemsOf 4 (some .int) 9 2 [vR G 1 0, vI x] M post := by
  refine bc_enter (L := [some (vR G 1 0), some (vI x), none, none]) (by decide) rfl rfl ?_
  refine wp_aload_n eX8_itemsOf_0 rfl ?_
  refine cx_X8_125 eX8_itemsOf_1 (ct_needCarousel k1 (fun hc0 => ?_))
  have hL1 : M 1 0 3 = 1 := by omega
  obtain ⟨hsi, hbr, hhn, hhr, hri⟩ := hI hL1
  have hsm := hsi.1
  have hni := hsm.1.2.1
  have hnd := hsm.1.1
  have hls := hsi.2.2.1
  have hpv := BR.pv hsm.1 hbr
  refine wp_aload_n eX8_itemsOf_4 rfl ?_
  refine wp_iload_n eX8_itemsOf_5 rfl ?_
  refine cx_X8_155 eX8_itemsOf_6 (ct_needDisk (fun h => k2 hL1 (by omega)) (fun g6a g6b => ?_))
  refine wp_iconst eX8_itemsOf_9 ?_
  refine ist_2 eX8_itemsOf_10 ?_
  refine wp_iconst eX8_itemsOf_11 ?_
  refine ist_3 eX8_itemsOf_12 ?_
  exact lp_itemsOf (hI hL1) (x := x) (by omega) (M 6 1 3).toNat 0 0 (by omega) (by omega) (by omega) (k3 hL1 (by omega))
theorem lp_emptySlots {G : bc_G} {M : bc_M} {post : bc_R → bc_M → Prop} {n0 : Int} (hI : LI M n0) : ∀ (n : Nat) (i s : Int) (h1 : i + n = M 6 1 3) (h2 : 0 ≤ i) (k : post (.inr (some (vI (fc_emp (M 19 0) n i s)))) M), bc_W G RX8 cX8_emptySlots 3 (some .int) 9 1 1 14 [some (vR G 1 0), some (vI s), some (vI i)] [] M post := by
  intro n
  induction n with
  | zero =>
    intro i s h1 h2 k
    obtain ⟨hsi, hbr, hhn, hhr, hri⟩ := hI
    have hsm := hsi.1
    have hni := hsm.1.2.1
    have hnd := hsm.1.1
    have hls := hsi.2.2.1
    have hpv := BR.pv hsm.1 hbr
    refine wp_iload_n eX8_emptySlots_14 rfl ?_
    refine wp_aload_n eX8_emptySlots_15 rfl ?_
    refine gf_X8_38 eX8_emptySlots_16 ?_
    refine gf_X8_112 eX8_emptySlots_19 ?_
    refine gf_X8_122 eX8_emptySlots_22 ?_
    refine wp_icmp_ge eX8_emptySlots_25 (fun c25 => ?_) (fun c25 => ?_)
    · refine wp_iload_n eX8_emptySlots_46 rfl ?_
      refine wp_ireturn eX8_emptySlots_47 ?_
      exact k
    · omega
  | succ n ih =>
    intro i s h1 h2 k
    obtain ⟨hsi, hbr, hhn, hhr, hri⟩ := hI
    have hsm := hsi.1
    have hni := hsm.1.2.1
    have hnd := hsm.1.1
    have hls := hsi.2.2.1
    have hpv := BR.pv hsm.1 hbr
    refine wp_iload_n eX8_emptySlots_14 rfl ?_
    refine wp_aload_n eX8_emptySlots_15 rfl ?_
    refine gf_X8_38 eX8_emptySlots_16 ?_
    refine gf_X8_112 eX8_emptySlots_19 ?_
    refine gf_X8_122 eX8_emptySlots_22 ?_
    refine wp_icmp_ge eX8_emptySlots_25 (fun c25 => ?_) (fun c25 => ?_)
    · omega
    · simp only [fc_emp] at k
      refine wp_iload_n eX8_emptySlots_28 rfl ?_
      refine wp_aload_n eX8_emptySlots_29 rfl ?_
      refine gf_X8_51 eX8_emptySlots_30 ?_
      refine gf_X8_192 eX8_emptySlots_33 ?_
      refine wp_iload_n eX8_emptySlots_36 rfl ?_
      refine al_19 eX8_emptySlots_37 ?_
      refine wp_isub eX8_emptySlots_38 ?_
      refine ist_1 eX8_emptySlots_39 ?_
      refine inc_2 eX8_emptySlots_40 ?_
      refine wp_goto eX8_emptySlots_43 ?_
      exact ih (i + 1) _ (by omega) (by omega) k
theorem ct_emptySlots {G : bc_G} {M : bc_M} {post : bc_R → bc_M → Prop} {n : Int} (hl : M 1 0 3 = 0 ∨ M 1 0 3 = 1) (hI : M 1 0 3 = 1 → LI M n) (k1 : M 1 0 3 = 0 → post (.inl "java/lang/IllegalStateException") M) (k3 : M 1 0 3 = 1 → post (.inr (some (vI (fc_emp (M 19 0) (M 6 1 3).toNat 0 (M 17 0 1))))) M) : bc_Call G yX8_emptySlots cX8_emptySlots 3 (some .int) 9 1 [vR G 1 0] M post := by
  refine bc_enter (L := [some (vR G 1 0), none, none]) (by decide) rfl rfl ?_
  refine wp_aload_n eX8_emptySlots_0 rfl ?_
  refine cx_X8_125 eX8_emptySlots_1 (ct_needCarousel k1 (fun hc0 => ?_))
  have hL1 : M 1 0 3 = 1 := by omega
  obtain ⟨hsi, hbr, hhn, hhr, hri⟩ := hI hL1
  have hsm := hsi.1
  have hni := hsm.1.2.1
  have hnd := hsm.1.1
  have hls := hsi.2.2.1
  have hpv := BR.pv hsm.1 hbr
  refine wp_aload_n eX8_emptySlots_4 rfl ?_
  refine gf_X8_51 eX8_emptySlots_5 ?_
  refine gf_X8_195 eX8_emptySlots_8 ?_
  refine ist_1 eX8_emptySlots_11 ?_
  refine wp_iconst eX8_emptySlots_12 ?_
  refine ist_2 eX8_emptySlots_13 ?_
  exact lp_emptySlots (hI hL1) (M 6 1 3).toNat 0 _ (by omega) (by omega) (k3 hL1)
theorem lp_worstAccess {G : bc_G} {M : bc_M} {post : bc_R → bc_M → Prop} {n0 : Int} (hI : LI M n0) {i : Int} (hi : 0 ≤ i ∧ i < M 6 1 3) : ∀ (n : Nat) (t w : Int) (h1 : t + n = M 17 0 0) (h2 : 0 ≤ t) (hw : 0 ≤ w ∧ w ≤ 9000) (k : post (.inr (some (vI (fc_wa M i n t w)))) M), bc_W G RX8 cX8_worstAccess 4 (some .int) 9 2 2 13 [some (vR G 1 0), some (vI i), some (vI w), some (vI t)] [] M post := by
  intro n
  induction n with
  | zero =>
    intro t w h1 h2 hw k
    obtain ⟨hsi, hbr, hhn, hhr, hri⟩ := hI
    have hsm := hsi.1
    have hni := hsm.1.2.1
    have hnd := hsm.1.1
    have hls := hsi.2.2.1
    have hpv := BR.pv hsm.1 hbr
    have hcy := hpv.1.1
    refine wp_iload_n eX8_worstAccess_13 rfl ?_
    refine wp_aload_n eX8_worstAccess_14 rfl ?_
    refine gf_X8_51 eX8_worstAccess_15 ?_
    refine gf_X8_167 eX8_worstAccess_18 ?_
    refine wp_icmp_ge eX8_worstAccess_21 (fun c21 => ?_) (fun c21 => ?_)
    · refine wp_iload_n eX8_worstAccess_44 rfl ?_
      refine wp_ireturn eX8_worstAccess_45 ?_
      exact k
    · omega
  | succ n ih =>
    intro t w h1 h2 hw k
    obtain ⟨hsi, hbr, hhn, hhr, hri⟩ := hI
    have hsm := hsi.1
    have hni := hsm.1.2.1
    have hnd := hsm.1.1
    have hls := hsi.2.2.1
    have hpv := BR.pv hsm.1 hbr
    have hcy := hpv.1.1
    refine wp_iload_n eX8_worstAccess_13 rfl ?_
    refine wp_aload_n eX8_worstAccess_14 rfl ?_
    refine gf_X8_51 eX8_worstAccess_15 ?_
    refine gf_X8_167 eX8_worstAccess_18 ?_
    refine wp_icmp_ge eX8_worstAccess_21 (fun c21 => ?_) (fun c21 => ?_)
    · omega
    · simp only [fc_wa] at k
      refine wp_iload_n eX8_worstAccess_24 rfl ?_
      refine wp_aload_n eX8_worstAccess_25 rfl ?_
      refine gf_X8_51 eX8_worstAccess_26 ?_
      refine wp_iload_n eX8_worstAccess_29 rfl ?_
      refine wp_iload_n eX8_worstAccess_30 rfl ?_
      refine c_X8_213 eX8_worstAccess_31 (ct_waitFor (by omega) hpv.1 hi (by omega) ?_)
      have hwr := pg_wait_rg2 (t := t) hpv.1 hi
      refine c_X8_219 eX8_worstAccess_34 (ct_max ?_)
      refine ist_2 eX8_worstAccess_37 ?_
      refine inc_3 eX8_worstAccess_38 ?_
      refine wp_goto eX8_worstAccess_41 ?_
      exact ih (t + 1) _ (by omega) (by omega) (by omega) k
theorem ct_worstAccess {G : bc_G} {M : bc_M} {post : bc_R → bc_M → Prop} {n : Int} {i : Int} (h_i : -2147483648 ≤ i ∧ i < 2147483648) (hl : M 1 0 3 = 0 ∨ M 1 0 3 = 1) (hI : M 1 0 3 = 1 → LI M n) (k1 : M 1 0 3 = 0 → post (.inl "java/lang/IllegalStateException") M) (k2 : M 1 0 3 = 1 → (i < 0 ∨ M 6 1 3 ≤ i) → post (.inl "java/lang/IllegalArgumentException") M) (k3 : M 1 0 3 = 1 → ¬ ((i < 0 ∨ M 6 1 3 ≤ i)) → post (.inr (some (vI (fc_wa M i (M 17 0 0).toNat 0 0)))) M) : bc_Call G yX8_worstAccess cX8_worstAccess 4 (some .int) 9 2 [vR G 1 0, vI i] M post := by
  refine bc_enter (L := [some (vR G 1 0), some (vI i), none, none]) (by decide) rfl rfl ?_
  refine wp_aload_n eX8_worstAccess_0 rfl ?_
  refine cx_X8_125 eX8_worstAccess_1 (ct_needCarousel k1 (fun hc0 => ?_))
  have hL1 : M 1 0 3 = 1 := by omega
  obtain ⟨hsi, hbr, hhn, hhr, hri⟩ := hI hL1
  have hsm := hsi.1
  have hni := hsm.1.2.1
  have hnd := hsm.1.1
  have hls := hsi.2.2.1
  have hpv := BR.pv hsm.1 hbr
  refine wp_aload_n eX8_worstAccess_4 rfl ?_
  refine wp_iload_n eX8_worstAccess_5 rfl ?_
  refine cx_X8_131 eX8_worstAccess_6 (ct_needItem (fun h => k2 hL1 (by omega)) (fun g6a g6b => ?_))
  refine wp_iconst eX8_worstAccess_9 ?_
  refine ist_2 eX8_worstAccess_10 ?_
  refine wp_iconst eX8_worstAccess_11 ?_
  refine ist_3 eX8_worstAccess_12 ?_
  exact lp_worstAccess (hI hL1) (i := i) (by omega) (M 17 0 0).toNat 0 0 (by have := hpv.1.1; omega) (by omega) (by omega) (k3 hL1 (by omega))
theorem lp_waitsFor {G : bc_G} {M : bc_M} {post : bc_R → bc_M → Prop} {n0 : Int} (hI : LI M n0) {s t : Int} (hs : 0 ≤ s ∧ s < 65536) (ht : 0 ≤ t ∧ t < 100000000) : ∀ (n : Nat) (i w : Int) (h1 : i + n = M 6 1 3) (h2 : 0 ≤ i) (k : post (.inr (some (vI (fc_wf M s t n i w)))) M), bc_W G RX8 cX8_waitsFor 5 (some .int) 5 0 0 5 [some (vR G 1 0), some (vI s), some (vI t), some (vI w), some (vI i)] [] M post := by
  intro n
  induction n with
  | zero =>
    intro i w h1 h2 k
    obtain ⟨hsi, hbr, hhn, hhr, hri⟩ := hI
    have hsm := hsi.1
    have hni := hsm.1.2.1
    have hnd := hsm.1.1
    have hls := hsi.2.2.1
    have hpv := BR.pv hsm.1 hbr
    refine wp_iload eX8_waitsFor_5 rfl ?_
    refine wp_aload_n eX8_waitsFor_7 rfl ?_
    refine gf_X8_38 eX8_waitsFor_8 ?_
    refine gf_X8_112 eX8_waitsFor_11 ?_
    refine gf_X8_122 eX8_waitsFor_14 ?_
    refine wp_icmp_ge eX8_waitsFor_17 (fun c17 => ?_) (fun c17 => ?_)
    · refine wp_iload_n eX8_waitsFor_48 rfl ?_
      refine wp_ireturn eX8_waitsFor_49 ?_
      exact k
    · omega
  | succ n ih =>
    intro i w h1 h2 k
    obtain ⟨hsi, hbr, hhn, hhr, hri⟩ := hI
    have hsm := hsi.1
    have hni := hsm.1.2.1
    have hnd := hsm.1.1
    have hls := hsi.2.2.1
    have hpv := BR.pv hsm.1 hbr
    refine wp_iload eX8_waitsFor_5 rfl ?_
    refine wp_aload_n eX8_waitsFor_7 rfl ?_
    refine gf_X8_38 eX8_waitsFor_8 ?_
    refine gf_X8_112 eX8_waitsFor_11 ?_
    refine gf_X8_122 eX8_waitsFor_14 ?_
    refine wp_icmp_ge eX8_waitsFor_17 (fun c17 => ?_) (fun c17 => ?_)
    · omega
    · simp only [fc_wf] at k
      refine wp_iload_n eX8_waitsFor_20 rfl ?_
      refine wp_iload eX8_waitsFor_21 rfl ?_
      refine c_X8_240 eX8_waitsFor_23 (ct_isIn ?_)
      refine wp_if_eq eX8_waitsFor_26 (fun c26 => ?_) (fun c26 => ?_) (by split <;> omega)
      · have hb : ¬ bs s i = true := by
          intro h
          rw [h] at c26
          exact absurd c26 (by decide)
        rw [if_neg hb] at k
        refine inc_4 eX8_waitsFor_42 ?_
        refine wp_goto eX8_waitsFor_45 ?_
        exact ih (i + 1) _ (by omega) (by omega) k
      · have hb : bs s i = true := by
          cases h : bs s i
          · rw [h] at c26; exact absurd rfl c26
          · rfl
        rw [if_pos hb] at k
        refine wp_iload_n eX8_waitsFor_29 rfl ?_
        refine wp_aload_n eX8_waitsFor_30 rfl ?_
        refine gf_X8_51 eX8_waitsFor_31 ?_
        refine wp_iload eX8_waitsFor_34 rfl ?_
        refine wp_iload_n eX8_waitsFor_36 rfl ?_
        refine c_X8_213 eX8_waitsFor_37 (ct_waitFor (by omega) hpv.1 (by omega) (by omega) ?_)
        refine wp_iadd eX8_waitsFor_40 ?_
        refine ist_3 eX8_waitsFor_41 ?_
        refine inc_4 eX8_waitsFor_42 ?_
        refine wp_goto eX8_waitsFor_45 ?_
        exact ih (i + 1) _ (by omega) (by omega) k
theorem ct_waitsFor {G : bc_G} {M : bc_M} {post : bc_R → bc_M → Prop} {n0 : Int} (hI : LI M n0) {s t : Int} (hs : 0 ≤ s ∧ s < 65536) (ht : 0 ≤ t ∧ t < 100000000) (k : post (.inr (some (vI (fc_wf M s t (M 6 1 3).toNat 0 0)))) M) : bc_Call G yX8_waitsFor cX8_waitsFor 5 (some .int) 5 0 [vR G 1 0, vI s, vI t] M post := by
  refine bc_enter (L := [some (vR G 1 0), some (vI s), some (vI t), none, none]) (by decide) rfl rfl ?_
  refine wp_iconst eX8_waitsFor_0 ?_
  refine ist_3 eX8_waitsFor_1 ?_
  refine wp_iconst eX8_waitsFor_2 ?_
  refine ist_4 eX8_waitsFor_3 ?_
  exact lp_waitsFor hI hs ht (M 6 1 3).toNat 0 0 (by have := hI.1.1.1.2.1; omega) (by omega) k
theorem lp_leastWorth {G : bc_G} {M : bc_M} {post : bc_R → bc_M → Prop} {n0 : Int} (hI : LI M n0) : ∀ (n : Nat) (i b : Int) (y : Option Value) (h1 : i + n = M 6 1 3) (h2 : 0 ≤ i) (hb : 0 ≤ b ∧ b < M 6 1 3) (k : post (.inr (some (vI (fc_lw (M 8 1) (M 19 0) n i b)))) M), bc_W G RX8 cX8_leastWorth 4 (some .int) 9 1 1 8 [some (vR G 1 0), some (vI b), some (vI i), y] [] M post := by
  intro n
  induction n with
  | zero =>
    intro i b y h1 h2 hb k
    obtain ⟨hsi, hbr, hhn, hhr, hri⟩ := hI
    have hsm := hsi.1
    have hni := hsm.1.2.1
    have hnd := hsm.1.1
    have hls := hsi.2.2.1
    have hpv := BR.pv hsm.1 hbr
    refine wp_iload_n eX8_leastWorth_8 rfl ?_
    refine wp_aload_n eX8_leastWorth_9 rfl ?_
    refine gf_X8_38 eX8_leastWorth_10 ?_
    refine gf_X8_112 eX8_leastWorth_13 ?_
    refine gf_X8_122 eX8_leastWorth_16 ?_
    refine wp_icmp_ge eX8_leastWorth_19 (fun c19 => ?_) (fun c19 => ?_)
    · refine wp_iload_n eX8_leastWorth_79 rfl ?_
      refine wp_ireturn eX8_leastWorth_80 ?_
      exact k
    · omega
  | succ n ih =>
    intro i b y h1 h2 hb k
    obtain ⟨hsi, hbr, hhn, hhr, hri⟩ := hI
    have hsm := hsi.1
    have hni := hsm.1.2.1
    have hnd := hsm.1.1
    have hls := hsi.2.2.1
    have hpv := BR.pv hsm.1 hbr
    refine wp_iload_n eX8_leastWorth_8 rfl ?_
    refine wp_aload_n eX8_leastWorth_9 rfl ?_
    refine gf_X8_38 eX8_leastWorth_10 ?_
    refine gf_X8_112 eX8_leastWorth_13 ?_
    refine gf_X8_122 eX8_leastWorth_16 ?_
    refine wp_icmp_ge eX8_leastWorth_19 (fun c19 => ?_) (fun c19 => ?_)
    · omega
    · simp only [fc_lw] at k
      have p1 := (hsm.2 i (by omega) (by omega)).1
      have p2 := (hsm.2 b (by omega) (by omega)).1
      have q1 := (hpv.1.2.2.2.2.2 i (by omega) (by omega)).1
      have q2 := (hpv.1.2.2.2.2.2 b (by omega) (by omega)).1
      have b1 := bm_nn (a := M 8 1 i) (b := M 19 0 b) (A := 99) (B := 6) p1 (by omega)
      have b2 := bm_nn (a := M 8 1 b) (b := M 19 0 i) (A := 99) (B := 6) p2 (by omega)
      refine wp_aload_n eX8_leastWorth_22 rfl ?_
      refine gf_X8_38 eX8_leastWorth_23 ?_
      refine gf_X8_112 eX8_leastWorth_26 ?_
      refine gf_X8_148 eX8_leastWorth_29 ?_
      refine wp_iload_n eX8_leastWorth_32 rfl ?_
      refine al_8 eX8_leastWorth_33 ?_
      refine wp_aload_n eX8_leastWorth_34 rfl ?_
      refine gf_X8_51 eX8_leastWorth_35 ?_
      refine gf_X8_192 eX8_leastWorth_38 ?_
      refine wp_iload_n eX8_leastWorth_41 rfl ?_
      refine al_19 eX8_leastWorth_42 ?_
      refine wp_imul eX8_leastWorth_43 ?_
      refine ist_3 eX8_leastWorth_44 ?_
      refine wp_iload_n eX8_leastWorth_45 rfl ?_
      refine wp_aload_n eX8_leastWorth_46 rfl ?_
      refine gf_X8_38 eX8_leastWorth_47 ?_
      refine gf_X8_112 eX8_leastWorth_50 ?_
      refine gf_X8_148 eX8_leastWorth_53 ?_
      refine wp_iload_n eX8_leastWorth_56 rfl ?_
      refine al_8 eX8_leastWorth_57 ?_
      refine wp_aload_n eX8_leastWorth_58 rfl ?_
      refine gf_X8_51 eX8_leastWorth_59 ?_
      refine gf_X8_192 eX8_leastWorth_62 ?_
      refine wp_iload_n eX8_leastWorth_65 rfl ?_
      refine al_19 eX8_leastWorth_66 ?_
      refine wp_imul eX8_leastWorth_67 ?_
      refine wp_icmp_ge eX8_leastWorth_68 (fun c68 => ?_) (fun c68 => ?_)
      · rw [if_neg (by omega)] at k
        refine inc_2 eX8_leastWorth_73 ?_
        refine wp_goto eX8_leastWorth_76 ?_
        exact ih (i + 1) _ _ (by omega) (by omega) (by omega) k
      · rw [if_pos (by omega)] at k
        refine wp_iload_n eX8_leastWorth_71 rfl ?_
        refine ist_1 eX8_leastWorth_72 ?_
        refine inc_2 eX8_leastWorth_73 ?_
        refine wp_goto eX8_leastWorth_76 ?_
        exact ih (i + 1) _ _ (by omega) (by omega) (by omega) k
theorem ct_leastWorth {G : bc_G} {M : bc_M} {post : bc_R → bc_M → Prop} {n : Int} (hl : M 1 0 3 = 0 ∨ M 1 0 3 = 1) (hI : M 1 0 3 = 1 → LI M n) (k1 : M 1 0 3 = 0 → post (.inl "java/lang/IllegalStateException") M) (k3 : M 1 0 3 = 1 → post (.inr (some (vI (fc_lw (M 8 1) (M 19 0) (M 6 1 3 - 1).toNat 1 0)))) M) : bc_Call G yX8_leastWorth cX8_leastWorth 4 (some .int) 9 1 [vR G 1 0] M post := by
  refine bc_enter (L := [some (vR G 1 0), none, none, none]) (by decide) rfl rfl ?_
  refine wp_aload_n eX8_leastWorth_0 rfl ?_
  refine cx_X8_125 eX8_leastWorth_1 (ct_needCarousel k1 (fun hc0 => ?_))
  have hL1 : M 1 0 3 = 1 := by omega
  obtain ⟨hsi, hbr, hhn, hhr, hri⟩ := hI hL1
  have hsm := hsi.1
  have hni := hsm.1.2.1
  have hnd := hsm.1.1
  have hls := hsi.2.2.1
  have hpv := BR.pv hsm.1 hbr
  refine wp_iconst eX8_leastWorth_4 ?_
  refine ist_1 eX8_leastWorth_5 ?_
  refine wp_iconst eX8_leastWorth_6 ?_
  refine ist_2 eX8_leastWorth_7 ?_
  exact lp_leastWorth (hI hL1) (M 6 1 3 - 1).toNat 1 0 none (by omega) (by omega) (by omega) (k3 hL1)
theorem lp_lowestOf {G : bc_G} {M : bc_M} {post : bc_R → bc_M → Prop} {n0 : Int} (hI : LI M n0) {s : Int} (hs : 0 ≤ s ∧ s < 65536) : ∀ (n : Nat) (i : Int) (h1 : i + n = M 6 1 3) (h2 : 0 ≤ i) (k : post (.inr (some (vI (fc_low s n i)))) M), bc_W G RX8 cX8_lowestOf 3 (some .int) 2 0 0 2 [some (vR G 1 0), some (vI s), some (vI i)] [] M post := by
  intro n
  induction n with
  | zero =>
    intro i h1 h2 k
    obtain ⟨hsi, hbr, hhn, hhr, hri⟩ := hI
    have hsm := hsi.1
    have hni := hsm.1.2.1
    have hnd := hsm.1.1
    have hls := hsi.2.2.1
    have hpv := BR.pv hsm.1 hbr
    refine wp_iload_n eX8_lowestOf_2 rfl ?_
    refine wp_aload_n eX8_lowestOf_3 rfl ?_
    refine gf_X8_38 eX8_lowestOf_4 ?_
    refine gf_X8_112 eX8_lowestOf_7 ?_
    refine gf_X8_122 eX8_lowestOf_10 ?_
    refine wp_icmp_ge eX8_lowestOf_13 (fun c13 => ?_) (fun c13 => ?_)
    · refine wp_bipush eX8_lowestOf_32 ?_
      refine wp_ireturn eX8_lowestOf_34 ?_
      exact k
    · omega
  | succ n ih =>
    intro i h1 h2 k
    obtain ⟨hsi, hbr, hhn, hhr, hri⟩ := hI
    have hsm := hsi.1
    have hni := hsm.1.2.1
    have hnd := hsm.1.1
    have hls := hsi.2.2.1
    have hpv := BR.pv hsm.1 hbr
    refine wp_iload_n eX8_lowestOf_2 rfl ?_
    refine wp_aload_n eX8_lowestOf_3 rfl ?_
    refine gf_X8_38 eX8_lowestOf_4 ?_
    refine gf_X8_112 eX8_lowestOf_7 ?_
    refine gf_X8_122 eX8_lowestOf_10 ?_
    refine wp_icmp_ge eX8_lowestOf_13 (fun c13 => ?_) (fun c13 => ?_)
    · omega
    · simp only [fc_low] at k
      refine wp_iload_n eX8_lowestOf_16 rfl ?_
      refine wp_iload_n eX8_lowestOf_17 rfl ?_
      refine c_X8_240 eX8_lowestOf_18 (ct_isIn ?_)
      refine wp_if_eq eX8_lowestOf_21 (fun c21 => ?_) (fun c21 => ?_) (by split <;> omega)
      · have hb : ¬ bs s i = true := by
          intro h
          rw [h] at c21
          exact absurd c21 (by decide)
        rw [if_neg hb] at k
        refine inc_2 eX8_lowestOf_26 ?_
        refine wp_goto eX8_lowestOf_29 ?_
        exact ih (i + 1) (by omega) (by omega) k
      · have hb : bs s i = true := by
          cases h : bs s i
          · rw [h] at c21; exact absurd rfl c21
          · rfl
        rw [if_pos hb] at k
        refine wp_iload_n eX8_lowestOf_24 rfl ?_
        refine wp_ireturn eX8_lowestOf_25 ?_
        exact k
theorem ct_lowestOf {G : bc_G} {M : bc_M} {post : bc_R → bc_M → Prop} {n0 : Int} (hI : LI M n0) {s : Int} (hs : 0 ≤ s ∧ s < 65536) (k : post (.inr (some (vI (fc_low s (M 6 1 3).toNat 0)))) M) : bc_Call G yX8_lowestOf cX8_lowestOf 3 (some .int) 2 0 [vR G 1 0, vI s] M post := by
  refine bc_enter (L := [some (vR G 1 0), some (vI s), none]) (by decide) rfl rfl ?_
  refine wp_iconst eX8_lowestOf_0 ?_
  refine ist_2 eX8_lowestOf_1 ?_
  exact lp_lowestOf hI hs (M 6 1 3).toNat 0 (by have := hI.1.1.1.2.1; omega) (by omega) k
theorem lp_nearest {G : bc_G} {M : bc_M} {post : bc_R → bc_M → Prop} {n0 : Int} (hI : LI M n0) {s t : Int} (hs : 0 ≤ s ∧ s < 65536) (ht : 0 ≤ t ∧ t < 100000000) : ∀ (n : Nat) (i b l : Int) (y : Option Value) (h1 : i + n = M 6 1 3) (h2 : 0 ≤ i) (hb9 : -2 ≤ b ∧ b ≤ 16) (hl9 : 0 ≤ l ∧ l ≤ 9000) (k : post (.inr (some (vI (fc_near M s t n i b l)))) M), bc_W G RX8 cX8_nearest 7 (some .int) 5 0 0 9 [some (vR G 1 0), some (vI s), some (vI t), some (vI b), some (vI l), some (vI i), y] [] M post := by
  intro n
  induction n with
  | zero =>
    intro i b l y h1 h2 hb9 hl9 k
    obtain ⟨hsi, hbr, hhn, hhr, hri⟩ := hI
    have hsm := hsi.1
    have hni := hsm.1.2.1
    have hnd := hsm.1.1
    have hls := hsi.2.2.1
    have hpv := BR.pv hsm.1 hbr
    refine wp_iload eX8_nearest_9 rfl ?_
    refine wp_aload_n eX8_nearest_11 rfl ?_
    refine gf_X8_38 eX8_nearest_12 ?_
    refine gf_X8_112 eX8_nearest_15 ?_
    refine gf_X8_122 eX8_nearest_18 ?_
    refine wp_icmp_ge eX8_nearest_21 (fun c21 => ?_) (fun c21 => ?_)
    · refine wp_iload_n eX8_nearest_71 rfl ?_
      refine wp_ireturn eX8_nearest_72 ?_
      exact k
    · omega
  | succ n ih =>
    intro i b l y h1 h2 hb9 hl9 k
    obtain ⟨hsi, hbr, hhn, hhr, hri⟩ := hI
    have hsm := hsi.1
    have hni := hsm.1.2.1
    have hnd := hsm.1.1
    have hls := hsi.2.2.1
    have hpv := BR.pv hsm.1 hbr
    refine wp_iload eX8_nearest_9 rfl ?_
    refine wp_aload_n eX8_nearest_11 rfl ?_
    refine gf_X8_38 eX8_nearest_12 ?_
    refine gf_X8_112 eX8_nearest_15 ?_
    refine gf_X8_122 eX8_nearest_18 ?_
    refine wp_icmp_ge eX8_nearest_21 (fun c21 => ?_) (fun c21 => ?_)
    · omega
    · simp only [fc_near] at k
      refine wp_iload_n eX8_nearest_24 rfl ?_
      refine wp_iload eX8_nearest_25 rfl ?_
      refine c_X8_240 eX8_nearest_27 (ct_isIn ?_)
      refine wp_if_eq eX8_nearest_30 (fun c30 => ?_) (fun c30 => ?_) (by split <;> omega)
      · have hb : ¬ bs s i = true := by
          intro h
          rw [h] at c30
          exact absurd c30 (by decide)
        rw [if_neg (by rintro ⟨u1, u2⟩; exact hb u1)] at k
        refine inc_5 eX8_nearest_65 ?_
        refine wp_goto eX8_nearest_68 ?_
        exact ih (i + 1) _ _ _ (by omega) (by omega) (by omega) (by omega) k
      · have hb : bs s i = true := by
          cases h : bs s i
          · rw [h] at c30; exact absurd rfl c30
          · rfl
        refine wp_aload_n eX8_nearest_33 rfl ?_
        refine gf_X8_51 eX8_nearest_34 ?_
        refine wp_iload eX8_nearest_37 rfl ?_
        refine wp_iload_n eX8_nearest_39 rfl ?_
        refine c_X8_213 eX8_nearest_40 (ct_waitFor (by omega) hpv.1 (by omega) (by omega) ?_)
        have hwr := pg_wait_rg2 (t := t) hpv.1 (i := i) (by omega)
        refine ist_6 eX8_nearest_43 ?_
        refine wp_iload_n eX8_nearest_45 rfl ?_
        refine wp_bipush eX8_nearest_46 ?_
        refine wp_icmp_eq eX8_nearest_48 (fun c48 => ?_) (fun c48 => ?_)
        · rw [if_pos ⟨hb, by omega⟩] at k
          refine wp_iload eX8_nearest_58 rfl ?_
          refine ist_3 eX8_nearest_60 ?_
          refine wp_iload eX8_nearest_61 rfl ?_
          refine ist_4 eX8_nearest_63 ?_
          refine inc_5 eX8_nearest_65 ?_
          refine wp_goto eX8_nearest_68 ?_
          exact ih (i + 1) _ _ _ (by omega) (by omega) (by omega) (by omega) k
        · refine wp_iload eX8_nearest_51 rfl ?_
          refine wp_iload eX8_nearest_53 rfl ?_
          refine wp_icmp_ge eX8_nearest_55 (fun c55 => ?_) (fun c55 => ?_)
          · rw [if_neg (by rintro ⟨u1, u2⟩; omega)] at k
            refine inc_5 eX8_nearest_65 ?_
            refine wp_goto eX8_nearest_68 ?_
            exact ih (i + 1) _ _ _ (by omega) (by omega) (by omega) (by omega) k
          · rw [if_pos ⟨hb, by omega⟩] at k
            refine wp_iload eX8_nearest_58 rfl ?_
            refine ist_3 eX8_nearest_60 ?_
            refine wp_iload eX8_nearest_61 rfl ?_
            refine ist_4 eX8_nearest_63 ?_
            refine inc_5 eX8_nearest_65 ?_
            refine wp_goto eX8_nearest_68 ?_
            exact ih (i + 1) _ _ _ (by omega) (by omega) (by omega) (by omega) k
theorem ct_nearest {G : bc_G} {M : bc_M} {post : bc_R → bc_M → Prop} {n0 : Int} (hI : LI M n0) {s t : Int} (hs : 0 ≤ s ∧ s < 65536) (ht : 0 ≤ t ∧ t < 100000000) (k : post (.inr (some (vI (fc_near M s t (M 6 1 3).toNat 0 (-2) 0)))) M) : bc_Call G yX8_nearest cX8_nearest 7 (some .int) 5 0 [vR G 1 0, vI s, vI t] M post := by
  refine bc_enter (L := [some (vR G 1 0), some (vI s), some (vI t), none, none, none, none]) (by decide) rfl rfl ?_
  refine wp_bipush eX8_nearest_0 ?_
  refine ist_3 eX8_nearest_2 ?_
  refine wp_iconst eX8_nearest_3 ?_
  refine ist_4 eX8_nearest_4 ?_
  refine wp_iconst eX8_nearest_6 ?_
  refine ist_5 eX8_nearest_7 ?_
  exact lp_nearest hI hs ht (M 6 1 3).toNat 0 (-2) 0 none (by have := hI.1.1.1.2.1; omega) (by omega) (by omega) (by omega) k
theorem ct_needSet {G : bc_G} {M : bc_M} {post : bc_R → bc_M → Prop} {s q : Int} (hq : 1 ≤ q ∧ q ≤ 16) (k1 : (s < 1 ∨ p2 (M 6 1 3) ≤ s ∨ bs_cnt s 16 < 1 ∨ q < bs_cnt s 16) → post (.inl "java/lang/IllegalArgumentException") M) (k2 : ¬ (s < 1 ∨ p2 (M 6 1 3) ≤ s ∨ bs_cnt s 16 < 1 ∨ q < bs_cnt s 16) → post (.inr none) M) (hs : -2147483648 ≤ s ∧ s < 2147483648) (hn : 0 ≤ M 6 1 3 ∧ M 6 1 3 ≤ 16) : bc_Call G yX8_needSet cX8_needSet 3 none 7 2 [vR G 1 0, vI s, vI q] M post := by
  refine bc_enter (L := [some (vR G 1 0), some (vI s), some (vI q)]) (by decide) rfl rfl ?_
  refine wp_iload_n eX8_needSet_0 rfl ?_
  refine wp_iconst eX8_needSet_1 ?_
  refine wp_iconst eX8_needSet_2 ?_
  refine wp_aload_n eX8_needSet_3 rfl ?_
  refine gf_X8_38 eX8_needSet_4 ?_
  refine gf_X8_112 eX8_needSet_7 ?_
  refine gf_X8_122 eX8_needSet_10 ?_
  refine wp_ishl eX8_needSet_13 ?_
  rw [bs_shl1 ⟨by omega, by omega⟩, show ((2 ^ (M 6 1 3).toNat : Nat) : Int) = p2 (M 6 1 3) from rfl]
  have hp2 := p2_rng hn
  refine wp_iconst eX8_needSet_14 ?_
  refine wp_isub eX8_needSet_15 ?_
  refine cx_X8_97 eX8_needSet_16 (ct_needRange (fun h => k1 (by omega)) (fun h1 h2 => ?_))
  refine wp_iload_n eX8_needSet_19 rfl ?_
  refine c_X8_267 eX8_needSet_20 (ct_bitCount ?_)
  have hbc := bs_cnt_rng s 16
  refine wp_iconst eX8_needSet_23 ?_
  refine wp_iload_n eX8_needSet_24 rfl ?_
  refine cx_X8_97 eX8_needSet_25 (ct_needRange (fun h => k1 (by omega)) (fun h3 h4 => ?_))
  refine wp_return eX8_needSet_28 ?_
  exact k2 (by omega)
theorem lp_worstTime {G : bc_G} {M : bc_M} {post : bc_R → bc_M → Prop} {n0 : Int} (hI : LI M n0) {s : Int} (hs : 0 ≤ s ∧ s < 65536) : ∀ (n : Nat) (t b l : Int) (y : Option Value) (h1 : t + n = M 17 0 0) (h2 : 0 ≤ t) (hl9 : 0 ≤ l ∧ l ≤ 1000000) (k : post (.inr (some (vI (fc_wt M s n t b l)))) M), bc_W G RX8 cX8_worstTime 6 (some .int) 9 3 3 18 [some (vR G 1 0), some (vI s), some (vI b), some (vI l), some (vI t), y] [] M post := by
  intro n
  induction n with
  | zero =>
    intro t b l y h1 h2 hl9 k
    obtain ⟨hsi, hbr, hhn, hhr, hri⟩ := id hI
    have hsm := hsi.1
    have hni := hsm.1.2.1
    have hnd := hsm.1.1
    have hls := hsi.2.2.1
    have hpv := BR.pv hsm.1 hbr
    have hcy := hpv.1.1
    refine wp_iload eX8_worstTime_18 rfl ?_
    refine wp_aload_n eX8_worstTime_20 rfl ?_
    refine gf_X8_51 eX8_worstTime_21 ?_
    refine gf_X8_167 eX8_worstTime_24 ?_
    refine wp_icmp_ge eX8_worstTime_27 (fun c27 => ?_) (fun c27 => ?_)
    · refine wp_iload_n eX8_worstTime_57 rfl ?_
      refine wp_ireturn eX8_worstTime_58 ?_
      exact k
    · omega
  | succ n ih =>
    intro t b l y h1 h2 hl9 k
    obtain ⟨hsi, hbr, hhn, hhr, hri⟩ := id hI
    have hsm := hsi.1
    have hni := hsm.1.2.1
    have hnd := hsm.1.1
    have hls := hsi.2.2.1
    have hpv := BR.pv hsm.1 hbr
    have hcy := hpv.1.1
    refine wp_iload eX8_worstTime_18 rfl ?_
    refine wp_aload_n eX8_worstTime_20 rfl ?_
    refine gf_X8_51 eX8_worstTime_21 ?_
    refine gf_X8_167 eX8_worstTime_24 ?_
    refine wp_icmp_ge eX8_worstTime_27 (fun c27 => ?_) (fun c27 => ?_)
    · omega
    · simp only [fc_wt] at k
      refine wp_aload_n eX8_worstTime_30 rfl ?_
      refine wp_iload_n eX8_worstTime_31 rfl ?_
      refine wp_iload eX8_worstTime_32 rfl ?_
      refine c_X8_237 eX8_worstTime_34 (ct_waitsFor hI hs (by omega) ?_)
      have hwr := fc_wf_rng (s := s) (t := t) hpv.1 (M 6 1 3).toNat 0 0 0 (by omega) (by omega) (by omega)
      refine ist_5 eX8_worstTime_37 ?_
      refine wp_iload eX8_worstTime_39 rfl ?_
      refine wp_iload_n eX8_worstTime_41 rfl ?_
      refine wp_icmp_le eX8_worstTime_42 (fun c42 => ?_) (fun c42 => ?_)
      · rw [if_neg (by omega)] at k
        refine inc_4 eX8_worstTime_51 ?_
        refine wp_goto eX8_worstTime_54 ?_
        exact ih (t + 1) _ _ _ (by omega) (by omega) (by omega) k
      · rw [if_pos (by omega)] at k
        refine wp_iload eX8_worstTime_45 rfl ?_
        refine ist_3 eX8_worstTime_47 ?_
        refine wp_iload eX8_worstTime_48 rfl ?_
        refine ist_2 eX8_worstTime_50 ?_
        refine inc_4 eX8_worstTime_51 ?_
        refine wp_goto eX8_worstTime_54 ?_
        exact ih (t + 1) _ _ _ (by omega) (by omega) (by omega) k
theorem ct_worstTime {G : bc_G} {M : bc_M} {post : bc_R → bc_M → Prop} {n : Int} {s : Int} (h_s : -2147483648 ≤ s ∧ s < 2147483648) (hl : M 1 0 3 = 0 ∨ M 1 0 3 = 1) (hI : M 1 0 3 = 1 → LI M n) (k1 : M 1 0 3 = 0 → post (.inl "java/lang/IllegalStateException") M) (k2 : M 1 0 3 = 1 → (s < 1 ∨ p2 (M 6 1 3) ≤ s ∨ bs_cnt s 16 < 1 ∨ 16 < bs_cnt s 16) → post (.inl "java/lang/IllegalArgumentException") M) (k3 : M 1 0 3 = 1 → ¬ ((s < 1 ∨ p2 (M 6 1 3) ≤ s ∨ bs_cnt s 16 < 1 ∨ 16 < bs_cnt s 16)) → post (.inr (some (vI (fc_wt M s (M 17 0 0).toNat 0 0 0)))) M) : bc_Call G yX8_worstTime cX8_worstTime 6 (some .int) 9 3 [vR G 1 0, vI s] M post := by
  refine bc_enter (L := [some (vR G 1 0), some (vI s), none, none, none, none]) (by decide) rfl rfl ?_
  refine wp_aload_n eX8_worstTime_0 rfl ?_
  refine cx_X8_125 eX8_worstTime_1 (ct_needCarousel k1 (fun hc0 => ?_))
  have hL1 : M 1 0 3 = 1 := by omega
  obtain ⟨hsi, hbr, hhn, hhr, hri⟩ := hI hL1
  have hsm := hsi.1
  have hni := hsm.1.2.1
  have hnd := hsm.1.1
  have hls := hsi.2.2.1
  have hpv := BR.pv hsm.1 hbr
  refine wp_aload_n eX8_worstTime_4 rfl ?_
  refine wp_iload_n eX8_worstTime_5 rfl ?_
  refine wp_bipush eX8_worstTime_6 ?_
  refine cx_X8_233 eX8_worstTime_8 (ct_needSet (by omega) (fun h => k2 hL1 (by omega)) (fun gS => ?_) h_s (by omega))
  have hp2 := p2_rng (n := M 6 1 3) (by omega)
  refine wp_iconst eX8_worstTime_11 ?_
  refine ist_2 eX8_worstTime_12 ?_
  refine wp_iconst eX8_worstTime_13 ?_
  refine ist_3 eX8_worstTime_14 ?_
  refine wp_iconst eX8_worstTime_15 ?_
  refine ist_4 eX8_worstTime_16 ?_
  exact lp_worstTime (hI hL1) (s := s) (by omega) (M 17 0 0).toNat 0 0 0 none (by have := hpv.1.1; omega) (by omega) (by omega) (k3 hL1 (by omega))
theorem bx_and_rng {a b : Int} (ha : 0 ≤ a ∧ a < 65536) (hb : 0 ≤ b ∧ b < 65536) : 0 ≤ bx_and a b ∧ bx_and a b < 65536 := by
  have h := bs_and (a := a.toNat) (b := b.toNat) (by omega) (by omega)
  rw [show ((a.toNat : Nat) : Int) = a by omega, show ((b.toNat : Nat) : Int) = b by omega] at h
  rw [h]
  have := Nat.and_le_left (n := a.toNat) (m := b.toNat)
  omega
theorem ct_soonest {G : bc_G} {M : bc_M} {post : bc_R → bc_M → Prop} {n : Int} {c s : Int} (h_c : -2147483648 ≤ c ∧ c < 2147483648) (h_s : -2147483648 ≤ s ∧ s < 2147483648) (hl : M 1 0 3 = 0 ∨ M 1 0 3 = 1) (hI : M 1 0 3 = 1 → LI M n) (k1 : M 1 0 3 = 0 → post (.inl "java/lang/IllegalStateException") M) (k2 : M 1 0 3 = 1 → (c < 0 ∨ M 5 1 1 ≤ c) ∨ (s < 1 ∨ p2 (M 6 1 3) ≤ s ∨ bs_cnt s 16 < 1 ∨ 16 < bs_cnt s 16) → post (.inl "java/lang/IllegalArgumentException") M) (k3 : M 1 0 3 = 1 → ¬ ((c < 0 ∨ M 5 1 1 ≤ c) ∨ (s < 1 ∨ p2 (M 6 1 3) ≤ s ∨ bs_cnt s 16 < 1 ∨ 16 < bs_cnt s 16)) → post (.inr (some (vI (if bx_and s (M 12 (4 * 1 + c) 7) = 0 then fc_near M s (M 12 (4 * 1 + c) 2) (M 6 1 3).toNat 0 (-2) 0 else fc_low (bx_and s (M 12 (4 * 1 + c) 7)) (M 6 1 3).toNat 0)))) M) (hn9 : n ≤ 2900) : bc_Call G yX8_soonest cX8_soonest 5 (some .int) 9 4 [vR G 1 0, vI c, vI s] M post := by
  refine bc_enter (L := [some (vR G 1 0), some (vI c), some (vI s), none, none]) (by decide) rfl rfl ?_
  refine wp_aload_n eX8_soonest_0 rfl ?_
  refine cx_X8_125 eX8_soonest_1 (ct_needCarousel k1 (fun hc0 => ?_))
  have hL1 : M 1 0 3 = 1 := by omega
  obtain ⟨hsi, hbr, hhn, hhr, hri⟩ := hI hL1
  have hsm := hsi.1
  have hni := hsm.1.2.1
  have hnd := hsm.1.1
  have hls := hsi.2.2.1
  have hpv := BR.pv hsm.1 hbr
  refine wp_aload_n eX8_soonest_4 rfl ?_
  refine wp_iload_n eX8_soonest_5 rfl ?_
  refine cx_X8_128 eX8_soonest_6 (ct_needClient (fun h => k2 hL1 (by omega)) (fun g6a g6b => ?_))
  refine wp_aload_n eX8_soonest_9 rfl ?_
  refine wp_iload_n eX8_soonest_10 rfl ?_
  refine wp_bipush eX8_soonest_11 ?_
  refine cx_X8_233 eX8_soonest_13 (ct_needSet (by omega) (fun h => k2 hL1 (by omega)) (fun gS => ?_) h_s (by omega))
  have hp2 := p2_rng (n := M 6 1 3) (by omega)
  refine wp_aload_n eX8_soonest_16 rfl ?_
  refine gf_X8_38 eX8_soonest_17 ?_
  refine gf_X8_137 eX8_soonest_20 ?_
  refine wp_iload_n eX8_soonest_23 rfl ?_
  refine al_11 eX8_soonest_24 ?_
  refine ast_3 eX8_soonest_25 ?_
  have hcl := hsi.2.2.2 c (by omega) (by omega)
  have hc7 := hcl.2.2.2.1
  have hc2 := hcl.2.2.1
  refine wp_iload_n eX8_soonest_26 rfl ?_
  refine wp_aload_n eX8_soonest_27 rfl ?_
  refine gf_X8_296 eX8_soonest_28 ?_
  refine wp_iand eX8_soonest_31 ?_
  refine ist_4 eX8_soonest_32 ?_
  have har := bx_and_rng (a := s) (b := M 12 (4 * 1 + c) 7) (by omega) (by omega)
  refine wp_iload eX8_soonest_34 rfl ?_
  refine wp_if_eq eX8_soonest_36 (fun c36 => ?_) (fun c36 => ?_)
  · have hz9 : bx_and s (M 12 (4 * 1 + c) 7) = 0 := c36
    refine wp_aload_n eX8_soonest_48 rfl ?_
    refine wp_iload_n eX8_soonest_49 rfl ?_
    refine wp_aload_n eX8_soonest_50 rfl ?_
    refine gf_X8_145 eX8_soonest_51 ?_
    refine c_X8_315 eX8_soonest_54 (ct_nearest (hI hL1) (by omega) (by omega) ?_)
    refine wp_ireturn eX8_soonest_57 ?_
    first
    | exact (by have k4 := k3 hL1 (by omega); rw [if_pos c36] at k4; exact k4)
    | exact (by have k4 := k3 hL1 (by omega); rw [if_neg c36] at k4; exact k4)
  · refine wp_aload_n eX8_soonest_39 rfl ?_
    refine wp_iload eX8_soonest_40 rfl ?_
    refine c_X8_312 eX8_soonest_42 (ct_lowestOf (hI hL1) (by omega) ?_)
    refine wp_goto eX8_soonest_45 ?_
    refine wp_ireturn eX8_soonest_57 ?_
    first
    | exact (by have k4 := k3 hL1 (by omega); rw [if_pos c36] at k4; exact k4)
    | exact (by have k4 := k3 hL1 (by omega); rw [if_neg c36] at k4; exact k4)
theorem ct_hint {G : bc_G} {M : bc_M} {post : bc_R → bc_M → Prop} {n : Int} {c : Int} (h_c : -2147483648 ≤ c ∧ c < 2147483648) (hl : M 1 0 3 = 0 ∨ M 1 0 3 = 1) (hI : M 1 0 3 = 1 → LI M n) (k1 : M 1 0 3 = 0 → post (.inl "java/lang/IllegalStateException") M) (k2 : M 1 0 3 = 1 → (c < 0 ∨ M 5 1 1 ≤ c) → post (.inl "java/lang/IllegalArgumentException") M) (k3 : M 1 0 3 = 1 → ¬ ((c < 0 ∨ M 5 1 1 ≤ c)) → post (.inr (some (vI (fc_near M (M 12 (4 * 1 + c) 7) (M 12 (4 * 1 + c) 2) (M 6 1 3).toNat 0 (-2) 0)))) M) (hn9 : n ≤ 2900) : bc_Call G yX8_hint cX8_hint 3 (some .int) 9 2 [vR G 1 0, vI c] M post := by
  refine bc_enter (L := [some (vR G 1 0), some (vI c), none]) (by decide) rfl rfl ?_
  refine wp_aload_n eX8_hint_0 rfl ?_
  refine cx_X8_125 eX8_hint_1 (ct_needCarousel k1 (fun hc0 => ?_))
  have hL1 : M 1 0 3 = 1 := by omega
  obtain ⟨hsi, hbr, hhn, hhr, hri⟩ := hI hL1
  have hsm := hsi.1
  have hni := hsm.1.2.1
  have hnd := hsm.1.1
  have hls := hsi.2.2.1
  have hpv := BR.pv hsm.1 hbr
  refine wp_aload_n eX8_hint_4 rfl ?_
  refine wp_iload_n eX8_hint_5 rfl ?_
  refine cx_X8_128 eX8_hint_6 (ct_needClient (fun h => k2 hL1 (by omega)) (fun g6a g6b => ?_))
  refine wp_aload_n eX8_hint_9 rfl ?_
  refine gf_X8_38 eX8_hint_10 ?_
  refine gf_X8_137 eX8_hint_13 ?_
  refine wp_iload_n eX8_hint_16 rfl ?_
  refine al_11 eX8_hint_17 ?_
  refine ast_2 eX8_hint_18 ?_
  have hcl := hsi.2.2.2 c (by omega) (by omega)
  have hc7 := hcl.2.2.2.1
  have hc2 := hcl.2.2.1
  refine wp_aload_n eX8_hint_19 rfl ?_
  refine wp_aload_n eX8_hint_20 rfl ?_
  refine gf_X8_296 eX8_hint_21 ?_
  refine wp_aload_n eX8_hint_24 rfl ?_
  refine gf_X8_145 eX8_hint_25 ?_
  refine c_X8_315 eX8_hint_28 (ct_nearest (hI hL1) (by omega) (by omega) ?_)
  refine wp_ireturn eX8_hint_31 ?_
  exact k3 hL1 (by omega)
