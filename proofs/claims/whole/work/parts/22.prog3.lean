/-- the set of those of n items from i on that violate their bounds, added to s -/
def pg_viol (M : bc_M) (j z : Int) : Nat → Int → Int → Int
  | 0, _, s => s
  | n + 1, i, s => pg_viol M j z n (i + 1) (if 0 < M 10 z i ∧ M 10 z i < pg_gap M j i then bs_add s i else s)
theorem sq_gap_rng {f : Int → Int} : ∀ (n : Nat) (a w p : Int), (0 ≤ w ∧ w ≤ 10000) → (-1000 ≤ p ∧ p ≤ 1000) → (∀ q, a ≤ q → q < a + n → 0 ≤ f q ∧ f q ≤ 1000) → 0 ≤ sq_gap f n a w p ∧ sq_gap f n a w p ≤ 10000
  | 0, _, _, _, hw, _, _ => hw
  | n + 1, a, w, p, hw, hp, h => by
    have h1 := h a (by omega) (by omega)
    exact sq_gap_rng n (a + 1) _ _ (by omega) (by omega) (fun q h1 h2 => h q (by omega) (by omega))
theorem pg_last_rng {M : bc_M} {j ni i : Int} (h : PV M j ni) (hi : 0 ≤ i ∧ i < ni) : -1000 ≤ pg_last M j i ∧ pg_last M j i < 0 := by
  obtain ⟨h1, h2, h3, h4, h5, h6⟩ := h
  have h7 := h6 i hi.1 hi.2
  have h8 := h7.2 (max 0 (M 19 j i - 1)) (by omega) (by omega)
  unfold pg_last
  omega
theorem pg_gap_rng {M : bc_M} {j ni i : Int} (h : PV M j ni) (hi : 0 ≤ i ∧ i < ni) : 0 ≤ pg_gap M j i ∧ pg_gap M j i ≤ 10000 := by
  have h9 := pg_last_rng h hi
  obtain ⟨h1, h2, h3, h4, h5, h6⟩ := h
  have h7 := h6 i hi.1 hi.2
  exact sq_gap_rng _ _ _ _ (by omega) (by omega) (fun q a b => by have := h7.2 q a (by omega); omega)
theorem lp_violators {G : bc_G} {M : bc_M} {post : bc_R → bc_M → Prop} {j ni z : Int} (hj : 0 ≤ j ∧ j < 2) (hp : PV M j ni) (hz : 0 ≤ z ∧ z < 13) (hni : M 6 z 3 = ni) (hb : ∀ i, 0 ≤ i → i < ni → 0 ≤ M 10 z i ∧ M 10 z i ≤ 999) : ∀ (n : Nat) (i s : Int) (h1 : i + n = ni) (h2 : 0 ≤ i) (hs : 0 ≤ s ∧ s < 2 ^ 16) (k : post (.inr (some (vI (pg_viol M j z n i s)))) M), bc_W G RX4 cX4_violators 4 (some .int) 4 0 0 4 [some (vR G 17 j), some (vR G 6 z), some (vI s), some (vI i)] [] M post := by
  intro n
  induction n with
  | zero =>
    intro i s h1 h2 hs k
    have hn16 := hp.2.2.2.2.1
    refine wp_iload_n eX4_violators_4 rfl ?_
    refine wp_aload_n eX4_violators_5 rfl ?_
    refine gf_X4_74 eX4_violators_6 ?_
    refine wp_icmp_ge eX4_violators_9 (fun c9 => ?_) (fun c9 => ?_)
    · refine wp_iload_n eX4_violators_47 rfl ?_
      refine wp_ireturn eX4_violators_48 ?_
      exact k
    · omega
  | succ n ih =>
    intro i s h1 h2 hs k
    have hn16 := hp.2.2.2.2.1
    refine wp_iload_n eX4_violators_4 rfl ?_
    refine wp_aload_n eX4_violators_5 rfl ?_
    refine gf_X4_74 eX4_violators_6 ?_
    refine wp_icmp_ge eX4_violators_9 (fun c9 => ?_) (fun c9 => ?_)
    · omega
    · have hn16 := hp.2.2.2.2.1
      have hb1 := hb i h2 (by omega)
      refine wp_aload_n eX4_violators_12 rfl ?_
      refine gf_X4_120 eX4_violators_13 ?_
      refine wp_iload_n eX4_violators_16 rfl ?_
      refine al_10 eX4_violators_17 ?_
      refine wp_if_le eX4_violators_18 (fun c18 => ?_) (fun c18 => ?_)
      · have k2 : post (.inr (some (vI (pg_viol M j z n (i + 1) s)))) M := by simpa only [pg_viol, if_neg (show ¬ (0 < M 10 z i ∧ M 10 z i < pg_gap M j i) by omega)] using k
        refine inc_3 eX4_violators_41 ?_
        refine wp_goto eX4_violators_44 ?_
        exact ih (i + 1) _ (by omega) (by omega) (by first | exact hs | exact bs_add_rng hs ⟨by omega, by omega⟩) k2
      · refine wp_aload_n eX4_violators_21 rfl ?_
        refine wp_iload_n eX4_violators_22 rfl ?_
        refine c_X4_123 eX4_violators_23 (ct_widestGap hj hp ⟨h2, by omega⟩ ?_)
        have hgr := pg_gap_rng hp (i := i) ⟨h2, by omega⟩
        refine wp_aload_n eX4_violators_26 rfl ?_
        refine gf_X4_120 eX4_violators_27 ?_
        refine wp_iload_n eX4_violators_30 rfl ?_
        refine al_10 eX4_violators_31 ?_
        refine wp_icmp_le eX4_violators_32 (fun c32 => ?_) (fun c32 => ?_)
        · have k2 : post (.inr (some (vI (pg_viol M j z n (i + 1) s)))) M := by simpa only [pg_viol, if_neg (show ¬ (0 < M 10 z i ∧ M 10 z i < pg_gap M j i) by omega)] using k
          refine inc_3 eX4_violators_41 ?_
          refine wp_goto eX4_violators_44 ?_
          exact ih (i + 1) _ (by omega) (by omega) (by first | exact hs | exact bs_add_rng hs ⟨by omega, by omega⟩) k2
        · have k2 : post (.inr (some (vI (pg_viol M j z n (i + 1) (bs_add s i))))) M := by simpa only [pg_viol, if_pos (show 0 < M 10 z i ∧ M 10 z i < pg_gap M j i by omega)] using k
          refine wp_iload_n eX4_violators_35 rfl ?_
          refine wp_iconst eX4_violators_36 ?_
          refine wp_iload_n eX4_violators_37 rfl ?_
          refine wp_ishl eX4_violators_38 ?_
          refine wp_ior eX4_violators_39 ?_
          rw [bs_or_shl ⟨by omega, by omega⟩ ⟨by omega, by omega⟩]
          refine ist_2 eX4_violators_40 ?_
          refine inc_3 eX4_violators_41 ?_
          refine wp_goto eX4_violators_44 ?_
          exact ih (i + 1) _ (by omega) (by omega) (by first | exact hs | exact bs_add_rng hs ⟨by omega, by omega⟩) k2
theorem ct_violators {G : bc_G} {M : bc_M} {post : bc_R → bc_M → Prop} {j ni z : Int} (hj : 0 ≤ j ∧ j < 2) (hp : PV M j ni) (hz : 0 ≤ z ∧ z < 13) (hni : M 6 z 3 = ni) (hb : ∀ i, 0 ≤ i → i < ni → 0 ≤ M 10 z i ∧ M 10 z i ≤ 999) (k : post (.inr (some (vI (pg_viol M j z ni.toNat 0 0)))) M) : bc_Call G yX4_violators cX4_violators 4 (some .int) 4 0 [vR G 17 j, vR G 6 z] M post := by
  refine bc_enter (L := [some (vR G 17 j), some (vR G 6 z), none, none]) (by decide) rfl rfl ?_
  refine wp_iconst eX4_violators_0 ?_
  refine ist_2 eX4_violators_1 ?_
  refine wp_iconst eX4_violators_2 ?_
  refine ist_3 eX4_violators_3 ?_
  exact lp_violators hj hp hz hni hb ni.toNat 0 0 (by have := hp.2.2.2.2.1; omega) (by omega) (by decide) k
def pg_seg (M : bc_M) (j s : Int) (z : Int) : Nat → Int → Int
  | 0, _ => z
  | n + 1, k => if M 18 j k ≤ s ∧ s < M 18 j k + M 17 j 3 then -3 - (s - M 18 j k) else pg_seg M j s z n (k + 1)
def pg_item (M : bc_M) (j s : Int) : Nat → Int → Int
  | 0, _ => -2
  | n + 1, i => if pg_on M j i s then i else pg_item M j s n (i + 1)
def pg_content (M : bc_M) (j ni s : Int) : Int := pg_seg M j s (pg_item M j s ni.toNat 0) (M 17 j 2).toNat 0
theorem lp_contentB {G : bc_G} {M : bc_M} {post : bc_R → bc_M → Prop} {j ni t s : Int} (hj : 0 ≤ j ∧ j < 2) (hp : PV M j ni) (hs : 0 ≤ s ∧ s < 1000) : ∀ (n : Nat) (i : Int) (h1 : i + n = ni) (h2 : 0 ≤ i) (k : post (.inr (some (vI (pg_item M j s n i)))) M), bc_W G RX4 cX4_contentAt 5 (some .int) 3 0 0 67 [some (vR G 17 j), some (vI t), some (vI ni), some (vI s), some (vI i)] [] M post := by
  intro n
  induction n with
  | zero =>
    intro i h1 h2 k
    have hn16 := hp.2.2.2.2.1
    refine wp_iload eX4_contentAt_67 rfl ?_
    refine wp_iload_n eX4_contentAt_69 rfl ?_
    refine wp_icmp_ge eX4_contentAt_70 (fun c70 => ?_) (fun c70 => ?_)
    · obtain ⟨hc, hg, hl, hst, hni, hit⟩ := id hp
      refine wp_bipush eX4_contentAt_92 ?_
      refine wp_ireturn eX4_contentAt_94 ?_
      exact k
    · have := hp.2.2.2.2.1
      omega
  | succ n ih =>
    intro i h1 h2 k
    have hn16 := hp.2.2.2.2.1
    refine wp_iload eX4_contentAt_67 rfl ?_
    refine wp_iload_n eX4_contentAt_69 rfl ?_
    refine wp_icmp_ge eX4_contentAt_70 (fun c70 => ?_) (fun c70 => ?_)
    · have := hp.2.2.2.2.1
      omega
    · obtain ⟨hc, hg, hl, hst, hni, hit⟩ := id hp
      refine wp_aload_n eX4_contentAt_73 rfl ?_
      refine wp_iload eX4_contentAt_74 rfl ?_
      refine wp_iload_n eX4_contentAt_76 rfl ?_
      refine c_X4_103 eX4_contentAt_77 (ct_isOnAir hj (by omega) ⟨by have := hit i h2 (by omega); omega, by have := hit i h2 (by omega); omega⟩ (fun n h3 h4 => by have := (hit i h2 (by omega)).2 n h3 h4; omega) (by omega) ?_)
      refine wp_if_eq eX4_contentAt_80 (fun c80 => ?_) (fun c80 => ?_) (by split <;> omega)
      · have hon : pg_on M j i s = false := by
          cases h : pg_on M j i s
          · rfl
          · unfold pg_on at h; rw [h] at c80; exact absurd c80 (by decide)
        have k2 : post (.inr (some (vI (pg_item M j s n (i + 1))))) M := by simpa [pg_item, hon] using k
        refine inc_4 eX4_contentAt_86 ?_
        refine wp_goto eX4_contentAt_89 ?_
        exact ih (i + 1) (by omega) (by omega) k2
      · have hon : pg_on M j i s = true := by
          cases h : pg_on M j i s
          · unfold pg_on at h; rw [h] at c80; exact absurd rfl c80
          · rfl
        have k : post (.inr (some (vI i))) M := by simpa [pg_item, hon] using k
        refine wp_iload eX4_contentAt_83 rfl ?_
        refine wp_ireturn eX4_contentAt_85 ?_
        exact k
theorem lp_contentA {G : bc_G} {M : bc_M} {post : bc_R → bc_M → Prop} {j ni t s : Int} (hj : 0 ≤ j ∧ j < 2) (hp : PV M j ni) (hs : 0 ≤ s ∧ s < 1000) : ∀ (n : Nat) (q : Int) (h1 : q + n = M 17 j 2) (h2 : 0 ≤ q) (k : post (.inr (some (vI (pg_seg M j s (pg_item M j s ni.toNat 0) n q)))) M), bc_W G RX4 cX4_contentAt 5 (some .int) 3 0 0 9 [some (vR G 17 j), some (vI t), some (vI ni), some (vI s), some (vI q)] [] M post := by
  intro n
  induction n with
  | zero =>
    intro q h1 h2 k
    obtain ⟨hc, hg, hl, hst, hni, hit⟩ := id hp
    refine wp_iload eX4_contentAt_9 rfl ?_
    refine wp_aload_n eX4_contentAt_11 rfl ?_
    refine gf_X4_18 eX4_contentAt_12 ?_
    refine wp_icmp_ge eX4_contentAt_15 (fun c15 => ?_) (fun c15 => ?_)
    · refine wp_iconst eX4_contentAt_64 ?_
      refine ist_4 eX4_contentAt_65 ?_
      exact lp_contentB (t := t) hj hp hs ni.toNat 0 (by omega) (by omega) k
    · omega
  | succ n ih =>
    intro q h1 h2 k
    obtain ⟨hc, hg, hl, hst, hni, hit⟩ := id hp
    refine wp_iload eX4_contentAt_9 rfl ?_
    refine wp_aload_n eX4_contentAt_11 rfl ?_
    refine gf_X4_18 eX4_contentAt_12 ?_
    refine wp_icmp_ge eX4_contentAt_15 (fun c15 => ?_) (fun c15 => ?_)
    · omega
    · have hq := hst q h2 (by omega)
      refine wp_aload_n eX4_contentAt_18 rfl ?_
      refine gf_X4_24 eX4_contentAt_19 ?_
      refine wp_iload eX4_contentAt_22 rfl ?_
      refine al_18 eX4_contentAt_24 ?_
      refine wp_iload_n eX4_contentAt_25 rfl ?_
      refine wp_icmp_gt eX4_contentAt_26 (fun c26 => ?_) (fun c26 => ?_)
      · have k2 : post (.inr (some (vI (pg_seg M j s (pg_item M j s ni.toNat 0) n (q + 1))))) M := by simpa only [pg_seg, if_neg (show ¬ (M 18 j q ≤ s ∧ s < M 18 j q + M 17 j 3) by omega)] using k
        refine inc_4 eX4_contentAt_58 ?_
        refine wp_goto eX4_contentAt_61 ?_
        exact ih (q + 1) (by omega) (by omega) k2
      · refine wp_iload_n eX4_contentAt_29 rfl ?_
        refine wp_aload_n eX4_contentAt_30 rfl ?_
        refine gf_X4_24 eX4_contentAt_31 ?_
        refine wp_iload eX4_contentAt_34 rfl ?_
        refine al_18 eX4_contentAt_36 ?_
        refine wp_aload_n eX4_contentAt_37 rfl ?_
        refine gf_X4_21 eX4_contentAt_38 ?_
        refine wp_iadd eX4_contentAt_41 ?_
        refine wp_icmp_ge eX4_contentAt_42 (fun c42 => ?_) (fun c42 => ?_)
        · have k2 : post (.inr (some (vI (pg_seg M j s (pg_item M j s ni.toNat 0) n (q + 1))))) M := by simpa only [pg_seg, if_neg (show ¬ (M 18 j q ≤ s ∧ s < M 18 j q + M 17 j 3) by omega)] using k
          refine inc_4 eX4_contentAt_58 ?_
          refine wp_goto eX4_contentAt_61 ?_
          exact ih (q + 1) (by omega) (by omega) k2
        · have k2 : post (.inr (some (vI (-3 - (s - M 18 j q))))) M := by simpa only [pg_seg, if_pos (show M 18 j q ≤ s ∧ s < M 18 j q + M 17 j 3 by omega)] using k
          refine wp_bipush eX4_contentAt_45 ?_
          refine wp_iload_n eX4_contentAt_47 rfl ?_
          refine wp_aload_n eX4_contentAt_48 rfl ?_
          refine gf_X4_24 eX4_contentAt_49 ?_
          refine wp_iload eX4_contentAt_52 rfl ?_
          refine al_18 eX4_contentAt_54 ?_
          refine wp_isub eX4_contentAt_55 ?_
          refine wp_isub eX4_contentAt_56 ?_
          refine wp_ireturn eX4_contentAt_57 ?_
          exact k2
theorem ct_contentAt {G : bc_G} {M : bc_M} {post : bc_R → bc_M → Prop} {j ni t : Int} (hj : 0 ≤ j ∧ j < 2) (hp : PV M j ni) (htt : 0 ≤ t ∧ t < 100000000) (k : post (.inr (some (vI (pg_content M j ni (t % M 17 j 0))))) M) : bc_Call G yX4_contentAt cX4_contentAt 5 (some .int) 3 0 [vR G 17 j, vI t, vI ni] M post := by
  obtain ⟨hc, hg, hl, hst, hni, hit⟩ := id hp
  refine bc_enter (L := [some (vR G 17 j), some (vI t), some (vI ni), none, none]) (by decide) rfl rfl ?_
  refine wp_aload_n eX4_contentAt_0 rfl ?_
  refine wp_iload_n eX4_contentAt_1 rfl ?_
  refine c_X4_100 eX4_contentAt_2 (ct_inCycle ?_)
  have hs0 := Int.emod_nonneg t (b := M 17 j 0) (by omega)
  have hs1 := Int.emod_lt_of_pos t hc.1
  refine ist_3 eX4_contentAt_5 ?_
  refine wp_iconst eX4_contentAt_6 ?_
  refine ist_4 eX4_contentAt_7 ?_
  exact lp_contentA (t := t) hj hp (by omega) (M 17 j 2).toNat 0 (by omega) (by omega) k
theorem bm_tri (x : Int) : 0 ≤ x * (x + 1) := by
  rcases Int.lt_or_le x 0 with h | h
  · have h1 : 0 ≤ (-x) * (-(x + 1)) := Int.mul_nonneg (by omega) (by omega)
    rw [Int.neg_mul_neg] at h1
    exact h1
  · exact Int.mul_nonneg h (by omega)
theorem bm_tri2 (x : Int) : 0 ≤ x * (x - 1) := by
  have h := bm_tri (x - 1)
  rw [show x - 1 + 1 = x by omega, Int.mul_comm] at h
  exact h
theorem bc_fg {a b c d e f : Option Value} : ∀ (i : Nat) (v : Value), bc_nth [a, b, c, d, e, none] i = some v → bc_nth [a, b, c, d, e, f] i = some v
  | 0, _, h => h
  | 1, _, h => h
  | 2, _, h => h
  | 3, _, h => h
  | 4, _, h => h
  | 5, _, h => by simp [bc_nth] at h
  | _ + 6, _, h => by simp [bc_nth] at h
theorem lp_wsGaps {G : bc_G} {M : bc_M} {post : bc_R → bc_M → Prop} {j i : Int} (hj : 0 ≤ j ∧ j < 2) (hi : 0 ≤ i ∧ i < 16) (hs : 0 ≤ M 19 j i ∧ M 19 j i ≤ 6) (ht : ∀ n, 0 ≤ n → n < M 19 j i → 0 ≤ M 21 (16 * j + i) n ∧ M 21 (16 * j + i) n < 1000) : ∀ (n : Nat) (a w q : Int) (h1 : a + n = M 19 j i) (h2 : 0 ≤ a) (hq : -1000 ≤ q ∧ q ≤ 1000) (k : post (.inr (some (vI (sq_wg (M 21 (16 * j + i)) n a w q)))) M), bc_W G RX4 cX4_waitSumByGaps 6 (some .int) 3 0 0 16 [some (vR G 17 j), some (vI i), some (vI w), some (vI q), some (vI a), none] [] M post := by
  intro n
  induction n with
  | zero =>
    intro a w q h1 h2 hq k
    refine wp_iload eX4_waitSumByGaps_16 rfl ?_
    refine wp_aload_n eX4_waitSumByGaps_18 rfl ?_
    refine gf_X4_28 eX4_waitSumByGaps_19 ?_
    refine wp_iload_n eX4_waitSumByGaps_22 rfl ?_
    refine al_19 eX4_waitSumByGaps_23 ?_
    refine wp_icmp_ge eX4_waitSumByGaps_24 (fun c24 => ?_) (fun c24 => ?_)
    · refine wp_iload_n eX4_waitSumByGaps_68 rfl ?_
      refine wp_ireturn eX4_waitSumByGaps_69 ?_
      exact k
    · omega
  | succ n ih =>
    intro a w q h1 h2 hq k
    refine wp_iload eX4_waitSumByGaps_16 rfl ?_
    refine wp_aload_n eX4_waitSumByGaps_18 rfl ?_
    refine gf_X4_28 eX4_waitSumByGaps_19 ?_
    refine wp_iload_n eX4_waitSumByGaps_22 rfl ?_
    refine al_19 eX4_waitSumByGaps_23 ?_
    refine wp_icmp_ge eX4_waitSumByGaps_24 (fun c24 => ?_) (fun c24 => ?_)
    · omega
    · have ht1 := ht a (by omega) (by omega)
      refine wp_aload_n eX4_waitSumByGaps_27 rfl ?_
      refine gf_X4_33 eX4_waitSumByGaps_28 ?_
      refine wp_iload_n eX4_waitSumByGaps_31 rfl ?_
      refine al_20 eX4_waitSumByGaps_32 ?_
      refine wp_iload eX4_waitSumByGaps_33 rfl ?_
      refine al_21 eX4_waitSumByGaps_35 ?_
      have hbm := bm_abs (a := M 21 (16 * j + i) a - q) (b := M 21 (16 * j + i) a - q + 1) (A := 2000) (B := 2001) (by omega) (by omega)
      have hge := bm_tri (M 21 (16 * j + i) a - q)
      refine wp_iload_n eX4_waitSumByGaps_36 rfl ?_
      refine wp_isub eX4_waitSumByGaps_37 ?_
      refine ist_5 eX4_waitSumByGaps_38 ?_
      refine wp_iload_n eX4_waitSumByGaps_40 rfl ?_
      refine wp_iload eX4_waitSumByGaps_41 rfl ?_
      refine wp_iload eX4_waitSumByGaps_43 rfl ?_
      refine wp_iconst eX4_waitSumByGaps_45 ?_
      refine wp_iadd eX4_waitSumByGaps_46 ?_
      refine wp_imul eX4_waitSumByGaps_47 ?_
      refine wp_iconst eX4_waitSumByGaps_48 ?_
      refine wp_idiv eX4_waitSumByGaps_49 ?_
      refine wp_iadd eX4_waitSumByGaps_50 ?_
      refine ist_2 eX4_waitSumByGaps_51 ?_
      refine wp_aload_n eX4_waitSumByGaps_52 rfl ?_
      refine gf_X4_33 eX4_waitSumByGaps_53 ?_
      refine wp_iload_n eX4_waitSumByGaps_56 rfl ?_
      refine al_20 eX4_waitSumByGaps_57 ?_
      refine wp_iload eX4_waitSumByGaps_58 rfl ?_
      refine al_21 eX4_waitSumByGaps_60 ?_
      refine ist_3 eX4_waitSumByGaps_61 ?_
      refine inc_4 eX4_waitSumByGaps_62 ?_
      refine wp_goto eX4_waitSumByGaps_65 ?_
      refine wp_forget (L2 := [some (vR G 17 j), some (vI i), some (vI (w + (M 21 (16 * j + i) a - q) * (M 21 (16 * j + i) a - q + 1) / 2)), some (vI (M 21 (16 * j + i) a)), some (vI (a + 1)), none]) bc_fg ?_
      exact ih (a + 1) _ _ (by omega) (by omega) (by omega) k
def pg_wsg (M : bc_M) (j i : Int) : Int := sq_wg (M 21 (16 * j + i)) (M 19 j i).toNat 0 0 (pg_last M j i)
theorem ct_wsGaps {G : bc_G} {M : bc_M} {post : bc_R → bc_M → Prop} {j ni i : Int} (hj : 0 ≤ j ∧ j < 2) (hp : PV M j ni) (hi : 0 ≤ i ∧ i < ni) (hc9 : M 17 j 0 < 1000) (k : post (.inr (some (vI (pg_wsg M j i)))) M) : bc_Call G yX4_waitSumByGaps cX4_waitSumByGaps 6 (some .int) 3 0 [vR G 17 j, vI i] M post := by
  obtain ⟨hc, hg, hl, hst, hni, hit⟩ := id hp
  have hii := hit i hi.1 hi.2
  have hi16 : 0 ≤ i ∧ i < 16 := by omega
  have htm : ∀ n, 0 ≤ n → n < M 19 j i → 0 ≤ M 21 (16 * j + i) n ∧ M 21 (16 * j + i) n < 1000000 := fun n h1 h2 => by have := hii.2 n h1 h2; omega
  have hst6 : ∀ n, 0 ≤ n → n < M 17 j 2 → 0 ≤ M 18 j n ∧ M 18 j n < 1000000 := fun n h1 h2 => by have := hst n h1 h2; omega
  refine bc_enter (L := [some (vR G 17 j), some (vI i), none, none, none, none]) (by decide) rfl rfl ?_
  refine wp_iconst eX4_waitSumByGaps_0 ?_
  refine ist_2 eX4_waitSumByGaps_1 ?_
  refine wp_aload_n eX4_waitSumByGaps_2 rfl ?_
  refine wp_iload_n eX4_waitSumByGaps_3 rfl ?_
  refine c_X4_117 eX4_waitSumByGaps_4 (ct_lastTime ?_)
  have hla := hii.2 (max 0 (M 19 j i - 1)) (by omega) (by omega)
  refine wp_aload_n eX4_waitSumByGaps_7 rfl ?_
  refine gf_X4_9 eX4_waitSumByGaps_8 ?_
  refine wp_isub eX4_waitSumByGaps_11 ?_
  refine ist_3 eX4_waitSumByGaps_12 ?_
  refine wp_iconst eX4_waitSumByGaps_13 ?_
  refine ist_4 eX4_waitSumByGaps_14 ?_
  exact lp_wsGaps hj hi16 ⟨by omega, by omega⟩ (fun n h1 h2 => by have := hii.2 n h1 h2; omega) (M 19 j i).toNat 0 0 _ (by omega) (by omega) (by omega) k
/-- the inner scan: places passed, and the sum of their times -/
def wi_in (f : Int → Int) (lim : Int) : Nat → Int → Int → Int × Int
  | 0, p, t => (p, t)
  | n + 1, p, t => if f p < lim then wi_in f lim n (p + 1) (t + f p) else (p, t)
def wi_tgt (f : Int → Int) (sl cyc p : Int) : Int := if p < sl then f p else f 0 + cyc
/-- a segment's share: span, target -/
def wi_add (st : Int → Int) (k prev tgt passed fp pt : Int) : Int := (st k - prev) * (tgt - st k + 1) + (st k - prev) * (st k - prev - 1) / 2 - ((passed - fp) * tgt - pt)
def wi_out (f st : Int → Int) (sl cyc : Int) : Nat → Int → Int → Int → Int → Int × Int
  | 0, _, sum, passed, _ => (sum, passed)
  | n + 1, k, sum, passed, prev => wi_out f st sl cyc n (k + 1) (sum + ((st k - prev) * (wi_tgt f sl cyc (wi_in f (st k) (sl - passed).toNat passed 0).1 - st k + 1) + (st k - prev) * (st k - prev - 1) / 2) - (((wi_in f (st k) (sl - passed).toNat passed 0).1 - passed) * wi_tgt f sl cyc (wi_in f (st k) (sl - passed).toNat passed 0).1 - (wi_in f (st k) (sl - passed).toNat passed 0).2)) (wi_in f (st k) (sl - passed).toNat passed 0).1 (st k)
def wi_tail (f : Int → Int) (cyc : Int) : Nat → Int → Int → Int
  | 0, _, sum => sum
  | n + 1, a, sum => wi_tail f cyc n (a + 1) (sum - (f 0 + cyc - f a))
theorem wi_in_rng {f : Int → Int} {lim : Int} : ∀ (n : Nat) (p t : Int), p ≤ (wi_in f lim n p t).1 ∧ (wi_in f lim n p t).1 ≤ p + n
  | 0, p, t => by simp [wi_in]
  | n + 1, p, t => by
    simp only [wi_in]
    split
    · have := wi_in_rng (f := f) (lim := lim) n (p + 1) (t + f p)
      omega
    · simp only; omega
theorem lp_wiTail {G : bc_G} {M : bc_M} {post : bc_R → bc_M → Prop} {j i : Int} (hj : 0 ≤ j ∧ j < 2) (hi : 0 ≤ i ∧ i < 16) (hs : 1 ≤ M 19 j i ∧ M 19 j i ≤ 6) (ht : ∀ n, 0 ≤ n → n < M 19 j i → 0 ≤ M 21 (16 * j + i) n ∧ M 21 (16 * j + i) n ≤ 1000) (hg : 0 ≤ M 17 j 2 ∧ M 17 j 2 ≤ 8) (hst : ∀ n, 0 ≤ n → n < M 17 j 2 → 0 ≤ M 18 j n ∧ M 18 j n ≤ 1000) (hc : 0 < M 17 j 0 ∧ M 17 j 0 ≤ 1000) : ∀ (n : Nat) (a w : Int) (h1 : a + n = M 19 j i) (h2 : 0 ≤ a) (y3 y4 : Int) (x6 x7 x8 x9 : Option Value) (k : post (.inr (some (vI (wi_tail (M 21 (16 * j + i)) (M 17 j 0) n a w)))) M), bc_W G RX4 cX4_waitSumByIndex 10 (some .int) 2 0 0 194 [some (vR G 17 j), some (vI i), some (vI w), some (vI y3), some (vI y4), some (vI a), x6, x7, x8, x9] [] M post := by
  intro n
  induction n with
  | zero =>
    intro a w h1 h2 y3 y4 x6 x7 x8 x9 k
    refine wp_iload eX4_waitSumByIndex_194 rfl ?_
    refine wp_aload_n eX4_waitSumByIndex_196 rfl ?_
    refine gf_X4_28 eX4_waitSumByIndex_197 ?_
    refine wp_iload_n eX4_waitSumByIndex_200 rfl ?_
    refine al_19 eX4_waitSumByIndex_201 ?_
    refine wp_icmp_ge eX4_waitSumByIndex_202 (fun c202 => ?_) (fun c202 => ?_)
    · refine wp_iload_n eX4_waitSumByIndex_237 rfl ?_
      refine wp_ireturn eX4_waitSumByIndex_238 ?_
      exact k
    · omega
  | succ n ih =>
    intro a w h1 h2 y3 y4 x6 x7 x8 x9 k
    refine wp_iload eX4_waitSumByIndex_194 rfl ?_
    refine wp_aload_n eX4_waitSumByIndex_196 rfl ?_
    refine gf_X4_28 eX4_waitSumByIndex_197 ?_
    refine wp_iload_n eX4_waitSumByIndex_200 rfl ?_
    refine al_19 eX4_waitSumByIndex_201 ?_
    refine wp_icmp_ge eX4_waitSumByIndex_202 (fun c202 => ?_) (fun c202 => ?_)
    · omega
    · have ht1 := ht a (by omega) (by omega)
      refine wp_iload_n eX4_waitSumByIndex_205 rfl ?_
      refine wp_aload_n eX4_waitSumByIndex_206 rfl ?_
      refine gf_X4_33 eX4_waitSumByIndex_207 ?_
      refine wp_iload_n eX4_waitSumByIndex_210 rfl ?_
      refine al_20 eX4_waitSumByIndex_211 ?_
      refine wp_iconst eX4_waitSumByIndex_212 ?_
      refine al_21 eX4_waitSumByIndex_213 ?_
      refine wp_aload_n eX4_waitSumByIndex_214 rfl ?_
      refine gf_X4_9 eX4_waitSumByIndex_215 ?_
      refine wp_iadd eX4_waitSumByIndex_218 ?_
      refine wp_aload_n eX4_waitSumByIndex_219 rfl ?_
      refine gf_X4_33 eX4_waitSumByIndex_220 ?_
      refine wp_iload_n eX4_waitSumByIndex_223 rfl ?_
      refine al_20 eX4_waitSumByIndex_224 ?_
      refine wp_iload eX4_waitSumByIndex_225 rfl ?_
      refine al_21 eX4_waitSumByIndex_227 ?_
      refine wp_isub eX4_waitSumByIndex_228 ?_
      refine wp_isub eX4_waitSumByIndex_229 ?_
      refine ist_2 eX4_waitSumByIndex_230 ?_
      refine inc_5 eX4_waitSumByIndex_231 ?_
      refine wp_goto eX4_waitSumByIndex_234 ?_
      exact ih (a + 1) _ (by omega) (by omega) _ _ _ _ _ _ k
theorem lp_wiIn {G : bc_G} {M : bc_M} {post : bc_R → bc_M → Prop} {j i : Int} (hj : 0 ≤ j ∧ j < 2) (hi : 0 ≤ i ∧ i < 16) (hs : 1 ≤ M 19 j i ∧ M 19 j i ≤ 6) (ht : ∀ n, 0 ≤ n → n < M 19 j i → 0 ≤ M 21 (16 * j + i) n ∧ M 21 (16 * j + i) n ≤ 1000) (hg : 0 ≤ M 17 j 2 ∧ M 17 j 2 ≤ 8) (hst : ∀ n, 0 ≤ n → n < M 17 j 2 → 0 ≤ M 18 j n ∧ M 18 j n ≤ 1000) (hc : 0 < M 17 j 0 ∧ M 17 j 0 ≤ 1000) {w v fp q : Int} (hq : 0 ≤ q ∧ q < M 17 j 2) {x8 x9 : Option Value} : ∀ (n : Nat) (a t : Int) (h1 : a + n = M 19 j i) (h2 : 0 ≤ a) (k : bc_W G RX4 cX4_waitSumByIndex 10 (some .int) 2 0 0 87 [some (vR G 17 j), some (vI i), some (vI w), some (vI (wi_in (M 21 (16 * j + i)) (M 18 j q) n a t).1), some (vI v), some (vI q), some (vI fp), some (vI (wi_in (M 21 (16 * j + i)) (M 18 j q) n a t).2), x8, x9] [] M post), bc_W G RX4 cX4_waitSumByIndex 10 (some .int) 2 0 0 40 [some (vR G 17 j), some (vI i), some (vI w), some (vI a), some (vI v), some (vI q), some (vI fp), some (vI t), x8, x9] [] M post := by
  intro n
  induction n with
  | zero =>
    intro a t h1 h2 k
    refine wp_iload_n eX4_waitSumByIndex_40 rfl ?_
    refine wp_aload_n eX4_waitSumByIndex_41 rfl ?_
    refine gf_X4_28 eX4_waitSumByIndex_42 ?_
    refine wp_iload_n eX4_waitSumByIndex_45 rfl ?_
    refine al_19 eX4_waitSumByIndex_46 ?_
    refine wp_icmp_ge eX4_waitSumByIndex_47 (fun c47 => ?_) (fun c47 => ?_)
    · exact k
    · omega
  | succ n ih =>
    intro a t h1 h2 k
    refine wp_iload_n eX4_waitSumByIndex_40 rfl ?_
    refine wp_aload_n eX4_waitSumByIndex_41 rfl ?_
    refine gf_X4_28 eX4_waitSumByIndex_42 ?_
    refine wp_iload_n eX4_waitSumByIndex_45 rfl ?_
    refine al_19 eX4_waitSumByIndex_46 ?_
    refine wp_icmp_ge eX4_waitSumByIndex_47 (fun c47 => ?_) (fun c47 => ?_)
    · omega
    · have ht1 := ht a (by omega) (by omega)
      have hq1 := hst q hq.1 hq.2
      refine wp_aload_n eX4_waitSumByIndex_50 rfl ?_
      refine gf_X4_33 eX4_waitSumByIndex_51 ?_
      refine wp_iload_n eX4_waitSumByIndex_54 rfl ?_
      refine al_20 eX4_waitSumByIndex_55 ?_
      refine wp_iload_n eX4_waitSumByIndex_56 rfl ?_
      refine al_21 eX4_waitSumByIndex_57 ?_
      refine wp_aload_n eX4_waitSumByIndex_58 rfl ?_
      refine gf_X4_24 eX4_waitSumByIndex_59 ?_
      refine wp_iload eX4_waitSumByIndex_62 rfl ?_
      refine al_18 eX4_waitSumByIndex_64 ?_
      refine wp_icmp_ge eX4_waitSumByIndex_65 (fun c65 => ?_) (fun c65 => ?_)
      · simpa only [wi_in, if_neg (show ¬ (M 21 (16 * j + i) a < M 18 j q) by omega)] using k
      · simp only [wi_in, if_pos (show M 21 (16 * j + i) a < M 18 j q by omega)] at k
        refine wp_iload eX4_waitSumByIndex_68 rfl ?_
        refine wp_aload_n eX4_waitSumByIndex_70 rfl ?_
        refine gf_X4_33 eX4_waitSumByIndex_71 ?_
        refine wp_iload_n eX4_waitSumByIndex_74 rfl ?_
        refine al_20 eX4_waitSumByIndex_75 ?_
        refine wp_iload_n eX4_waitSumByIndex_76 rfl ?_
        refine al_21 eX4_waitSumByIndex_77 ?_
        refine wp_iadd eX4_waitSumByIndex_78 ?_
        refine ist_7 eX4_waitSumByIndex_79 ?_
        refine inc_3 eX4_waitSumByIndex_81 ?_
        refine wp_goto eX4_waitSumByIndex_84 ?_
        exact ih (a + 1) _ (by omega) (by omega) k
theorem lp_wiOut {G : bc_G} {M : bc_M} {post : bc_R → bc_M → Prop} {j i : Int} (hj : 0 ≤ j ∧ j < 2) (hi : 0 ≤ i ∧ i < 16) (hs : 1 ≤ M 19 j i ∧ M 19 j i ≤ 6) (ht : ∀ n, 0 ≤ n → n < M 19 j i → 0 ≤ M 21 (16 * j + i) n ∧ M 21 (16 * j + i) n ≤ 1000) (hg : 0 ≤ M 17 j 2 ∧ M 17 j 2 ≤ 8) (hst : ∀ n, 0 ≤ n → n < M 17 j 2 → 0 ≤ M 18 j n ∧ M 18 j n ≤ 1000) (hc : 0 < M 17 j 0 ∧ M 17 j 0 ≤ 1000) : ∀ (n : Nat) (q w a v : Int) (h1 : q + n = M 17 j 2) (h2 : 0 ≤ q) (h3 : 0 ≤ a ∧ a ≤ M 19 j i) (h4 : -1000 ≤ v ∧ v ≤ 1000) (x6 x7 x8 x9 : Option Value) (k : post (.inr (some (vI (wi_tail (M 21 (16 * j + i)) (M 17 j 0) (M 19 j i - (wi_out (M 21 (16 * j + i)) (M 18 j) (M 19 j i) (M 17 j 0) n q w a v).2).toNat (wi_out (M 21 (16 * j + i)) (M 18 j) (M 19 j i) (M 17 j 0) n q w a v).2 (wi_out (M 21 (16 * j + i)) (M 18 j) (M 19 j i) (M 17 j 0) n q w a v).1)))) M), bc_W G RX4 cX4_waitSumByIndex 10 (some .int) 2 0 0 25 [some (vR G 17 j), some (vI i), some (vI w), some (vI a), some (vI v), some (vI q), x6, x7, x8, x9] [] M post := by
  intro n
  induction n with
  | zero =>
    intro q w a v h1 h2 h3 h4 x6 x7 x8 x9 k
    refine wp_iload eX4_waitSumByIndex_25 rfl ?_
    refine wp_aload_n eX4_waitSumByIndex_27 rfl ?_
    refine gf_X4_18 eX4_waitSumByIndex_28 ?_
    refine wp_icmp_ge eX4_waitSumByIndex_31 (fun c31 => ?_) (fun c31 => ?_)
    · refine wp_iload_n eX4_waitSumByIndex_191 rfl ?_
      refine ist_5 eX4_waitSumByIndex_192 ?_
      exact lp_wiTail hj hi hs ht hg hst hc (M 19 j i - a).toNat a w (by omega) (by omega) _ _ _ _ _ _ k
    · omega
  | succ n ih =>
    intro q w a v h1 h2 h3 h4 x6 x7 x8 x9 k
    refine wp_iload eX4_waitSumByIndex_25 rfl ?_
    refine wp_aload_n eX4_waitSumByIndex_27 rfl ?_
    refine gf_X4_18 eX4_waitSumByIndex_28 ?_
    refine wp_icmp_ge eX4_waitSumByIndex_31 (fun c31 => ?_) (fun c31 => ?_)
    · omega
    · have hq1 := hst q h2 (by omega)
      refine wp_iload_n eX4_waitSumByIndex_34 rfl ?_
      refine ist_6 eX4_waitSumByIndex_35 ?_
      refine wp_iconst eX4_waitSumByIndex_37 ?_
      refine ist_7 eX4_waitSumByIndex_38 ?_
      refine lp_wiIn hj hi hs ht hg hst hc (q := q) (by omega) (M 19 j i - a).toNat a 0 (by omega) (by omega) ?_
      have hin := wi_in_rng (f := M 21 (16 * j + i)) (lim := M 18 j q) (M 19 j i - a).toNat a 0
      simp only [wi_out] at k
      generalize wi_in (M 21 (16 * j + i)) (M 18 j q) (M 19 j i - a).toNat a 0 = ri at hin k ⊢
      obtain ⟨p2, t2⟩ := ri
      simp only at hin k ⊢
      refine wp_iload_n eX4_waitSumByIndex_87 rfl ?_
      refine wp_aload_n eX4_waitSumByIndex_88 rfl ?_
      refine gf_X4_28 eX4_waitSumByIndex_89 ?_
      refine wp_iload_n eX4_waitSumByIndex_92 rfl ?_
      refine al_19 eX4_waitSumByIndex_93 ?_
      refine wp_icmp_ge eX4_waitSumByIndex_94 (fun c94 => ?_) (fun c94 => ?_)
      · have htg : wi_tgt (M 21 (16 * j + i)) (M 19 j i) (M 17 j 0) p2 = M 21 (16 * j + i) 0 + M 17 j 0 := by unfold wi_tgt; rw [if_neg (by omega)]
        rw [htg] at k
        refine wp_aload_n eX4_waitSumByIndex_108 rfl ?_
        refine gf_X4_33 eX4_waitSumByIndex_109 ?_
        refine wp_iload_n eX4_waitSumByIndex_112 rfl ?_
        refine al_20 eX4_waitSumByIndex_113 ?_
        refine wp_iconst eX4_waitSumByIndex_114 ?_
        refine al_21 eX4_waitSumByIndex_115 ?_
        refine wp_aload_n eX4_waitSumByIndex_116 rfl ?_
        refine gf_X4_9 eX4_waitSumByIndex_117 ?_
        refine wp_iadd eX4_waitSumByIndex_120 ?_
        refine ist_8 eX4_waitSumByIndex_121 ?_
        refine wp_aload_n eX4_waitSumByIndex_123 rfl ?_
        refine gf_X4_24 eX4_waitSumByIndex_124 ?_
        refine wp_iload eX4_waitSumByIndex_127 rfl ?_
        refine al_18 eX4_waitSumByIndex_129 ?_
        refine wp_iload eX4_waitSumByIndex_130 rfl ?_
        refine wp_isub eX4_waitSumByIndex_132 ?_
        refine ist_9 eX4_waitSumByIndex_133 ?_
        refine wp_iload_n eX4_waitSumByIndex_135 rfl ?_
        refine wp_iload eX4_waitSumByIndex_136 rfl ?_
        refine wp_iload eX4_waitSumByIndex_138 rfl ?_
        refine wp_aload_n eX4_waitSumByIndex_140 rfl ?_
        refine gf_X4_24 eX4_waitSumByIndex_141 ?_
        refine wp_iload eX4_waitSumByIndex_144 rfl ?_
        refine al_18 eX4_waitSumByIndex_146 ?_
        refine wp_isub eX4_waitSumByIndex_147 ?_
        refine wp_iconst eX4_waitSumByIndex_148 ?_
        refine wp_iadd eX4_waitSumByIndex_149 ?_
        refine wp_imul eX4_waitSumByIndex_150 ?_
        refine wp_iload eX4_waitSumByIndex_151 rfl ?_
        refine wp_iload eX4_waitSumByIndex_153 rfl ?_
        refine wp_iconst eX4_waitSumByIndex_155 ?_
        refine wp_isub eX4_waitSumByIndex_156 ?_
        have hbm := bm_abs (a := M 18 j q - v) (b := M 18 j q - v - 1) (A := 2000) (B := 2001) (by omega) (by omega)
        have hge := bm_tri2 (M 18 j q - v)
        refine wp_imul eX4_waitSumByIndex_157 ?_
        refine wp_iconst eX4_waitSumByIndex_158 ?_
        refine wp_idiv eX4_waitSumByIndex_159 ?_
        refine wp_iadd eX4_waitSumByIndex_160 ?_
        refine wp_iadd eX4_waitSumByIndex_161 ?_
        refine ist_2 eX4_waitSumByIndex_162 ?_
        refine wp_iload_n eX4_waitSumByIndex_163 rfl ?_
        refine wp_iload_n eX4_waitSumByIndex_164 rfl ?_
        refine wp_iload eX4_waitSumByIndex_165 rfl ?_
        refine wp_isub eX4_waitSumByIndex_167 ?_
        refine wp_iload eX4_waitSumByIndex_168 rfl ?_
        refine wp_imul eX4_waitSumByIndex_170 ?_
        refine wp_iload eX4_waitSumByIndex_171 rfl ?_
        refine wp_isub eX4_waitSumByIndex_173 ?_
        refine wp_isub eX4_waitSumByIndex_174 ?_
        refine ist_2 eX4_waitSumByIndex_175 ?_
        refine wp_aload_n eX4_waitSumByIndex_176 rfl ?_
        refine gf_X4_24 eX4_waitSumByIndex_177 ?_
        refine wp_iload eX4_waitSumByIndex_180 rfl ?_
        refine al_18 eX4_waitSumByIndex_182 ?_
        refine ist_4 eX4_waitSumByIndex_183 ?_
        refine inc_5 eX4_waitSumByIndex_185 ?_
        refine wp_goto eX4_waitSumByIndex_188 ?_
        exact ih (q + 1) _ _ _ (by omega) (by omega) (by omega) (by omega) _ _ _ _ k
      · have htg : wi_tgt (M 21 (16 * j + i)) (M 19 j i) (M 17 j 0) p2 = M 21 (16 * j + i) p2 := by unfold wi_tgt; rw [if_pos (by omega)]
        rw [htg] at k
        refine wp_aload_n eX4_waitSumByIndex_97 rfl ?_
        refine gf_X4_33 eX4_waitSumByIndex_98 ?_
        refine wp_iload_n eX4_waitSumByIndex_101 rfl ?_
        refine al_20 eX4_waitSumByIndex_102 ?_
        refine wp_iload_n eX4_waitSumByIndex_103 rfl ?_
        refine al_21 eX4_waitSumByIndex_104 ?_
        refine wp_goto eX4_waitSumByIndex_105 ?_
        refine ist_8 eX4_waitSumByIndex_121 ?_
        refine wp_aload_n eX4_waitSumByIndex_123 rfl ?_
        refine gf_X4_24 eX4_waitSumByIndex_124 ?_
        refine wp_iload eX4_waitSumByIndex_127 rfl ?_
        refine al_18 eX4_waitSumByIndex_129 ?_
        refine wp_iload eX4_waitSumByIndex_130 rfl ?_
        refine wp_isub eX4_waitSumByIndex_132 ?_
        refine ist_9 eX4_waitSumByIndex_133 ?_
        refine wp_iload_n eX4_waitSumByIndex_135 rfl ?_
        refine wp_iload eX4_waitSumByIndex_136 rfl ?_
        refine wp_iload eX4_waitSumByIndex_138 rfl ?_
        refine wp_aload_n eX4_waitSumByIndex_140 rfl ?_
        refine gf_X4_24 eX4_waitSumByIndex_141 ?_
        refine wp_iload eX4_waitSumByIndex_144 rfl ?_
        refine al_18 eX4_waitSumByIndex_146 ?_
        refine wp_isub eX4_waitSumByIndex_147 ?_
        refine wp_iconst eX4_waitSumByIndex_148 ?_
        refine wp_iadd eX4_waitSumByIndex_149 ?_
        refine wp_imul eX4_waitSumByIndex_150 ?_
        refine wp_iload eX4_waitSumByIndex_151 rfl ?_
        refine wp_iload eX4_waitSumByIndex_153 rfl ?_
        refine wp_iconst eX4_waitSumByIndex_155 ?_
        refine wp_isub eX4_waitSumByIndex_156 ?_
        have hbm := bm_abs (a := M 18 j q - v) (b := M 18 j q - v - 1) (A := 2000) (B := 2001) (by omega) (by omega)
        have hge := bm_tri2 (M 18 j q - v)
        refine wp_imul eX4_waitSumByIndex_157 ?_
        refine wp_iconst eX4_waitSumByIndex_158 ?_
        refine wp_idiv eX4_waitSumByIndex_159 ?_
        refine wp_iadd eX4_waitSumByIndex_160 ?_
        refine wp_iadd eX4_waitSumByIndex_161 ?_
        refine ist_2 eX4_waitSumByIndex_162 ?_
        refine wp_iload_n eX4_waitSumByIndex_163 rfl ?_
        refine wp_iload_n eX4_waitSumByIndex_164 rfl ?_
        refine wp_iload eX4_waitSumByIndex_165 rfl ?_
        refine wp_isub eX4_waitSumByIndex_167 ?_
        refine wp_iload eX4_waitSumByIndex_168 rfl ?_
        refine wp_imul eX4_waitSumByIndex_170 ?_
        refine wp_iload eX4_waitSumByIndex_171 rfl ?_
        refine wp_isub eX4_waitSumByIndex_173 ?_
        refine wp_isub eX4_waitSumByIndex_174 ?_
        refine ist_2 eX4_waitSumByIndex_175 ?_
        refine wp_aload_n eX4_waitSumByIndex_176 rfl ?_
        refine gf_X4_24 eX4_waitSumByIndex_177 ?_
        refine wp_iload eX4_waitSumByIndex_180 rfl ?_
        refine al_18 eX4_waitSumByIndex_182 ?_
        refine ist_4 eX4_waitSumByIndex_183 ?_
        refine inc_5 eX4_waitSumByIndex_185 ?_
        refine wp_goto eX4_waitSumByIndex_188 ?_
        exact ih (q + 1) _ _ _ (by omega) (by omega) (by omega) (by omega) _ _ _ _ k
def pg_wix (M : bc_M) (j i : Int) : Int × Int := wi_out (M 21 (16 * j + i)) (M 18 j) (M 19 j i) (M 17 j 0) (M 17 j 2).toNat 0 0 0 (M 18 j (M 17 j 2 - 1) - M 17 j 0)
def pg_wsi (M : bc_M) (j i : Int) : Int := wi_tail (M 21 (16 * j + i)) (M 17 j 0) (M 19 j i - (pg_wix M j i).2).toNat (pg_wix M j i).2 (pg_wix M j i).1
theorem ct_wsIndex {G : bc_G} {M : bc_M} {post : bc_R → bc_M → Prop} {j ni i : Int} (hj : 0 ≤ j ∧ j < 2) (hp : PV M j ni) (hi : 0 ≤ i ∧ i < ni) (hg1 : 0 < M 17 j 2) (k : post (.inr (some (vI (pg_wsi M j i)))) M) : bc_Call G yX4_waitSumByIndex cX4_waitSumByIndex 10 (some .int) 2 0 [vR G 17 j, vI i] M post := by
  obtain ⟨hc, hg, hl, hst, hni, hit⟩ := id hp
  have hii := hit i hi.1 hi.2
  have hi16 : 0 ≤ i ∧ i < 16 := by omega
  have htm : ∀ n, 0 ≤ n → n < M 19 j i → 0 ≤ M 21 (16 * j + i) n ∧ M 21 (16 * j + i) n < 1000000 := fun n h1 h2 => by have := hii.2 n h1 h2; omega
  have hst6 : ∀ n, 0 ≤ n → n < M 17 j 2 → 0 ≤ M 18 j n ∧ M 18 j n < 1000000 := fun n h1 h2 => by have := hst n h1 h2; omega
  refine bc_enter (L := [some (vR G 17 j), some (vI i), none, none, none, none, none, none, none, none]) (by decide) rfl rfl ?_
  refine wp_iconst eX4_waitSumByIndex_0 ?_
  refine ist_2 eX4_waitSumByIndex_1 ?_
  refine wp_iconst eX4_waitSumByIndex_2 ?_
  refine ist_3 eX4_waitSumByIndex_3 ?_
  refine wp_aload_n eX4_waitSumByIndex_4 rfl ?_
  refine gf_X4_24 eX4_waitSumByIndex_5 ?_
  refine wp_aload_n eX4_waitSumByIndex_8 rfl ?_
  refine gf_X4_18 eX4_waitSumByIndex_9 ?_
  refine wp_iconst eX4_waitSumByIndex_12 ?_
  refine wp_isub eX4_waitSumByIndex_13 ?_
  have hla := hst (M 17 j 2 - 1) (by omega) (by omega)
  refine al_18 eX4_waitSumByIndex_14 ?_
  refine wp_aload_n eX4_waitSumByIndex_15 rfl ?_
  refine gf_X4_9 eX4_waitSumByIndex_16 ?_
  refine wp_isub eX4_waitSumByIndex_19 ?_
  refine ist_4 eX4_waitSumByIndex_20 ?_
  refine wp_iconst eX4_waitSumByIndex_22 ?_
  refine ist_5 eX4_waitSumByIndex_23 ?_
  exact lp_wiOut hj hi16 hii.1 (fun n h1 h2 => by have := hii.2 n h1 h2; omega) hg (fun n h1 h2 => by have := hst n h1 h2; omega) hc (M 17 j 2).toNat 0 0 0 _ (by omega) (by omega) (by omega) (by omega) _ _ _ _ k
def pg_ws (M : bc_M) (j i : Int) : Int := if 0 < M 17 j 2 then pg_wsi M j i else pg_wsg M j i
def pg_ls (M : bc_M) (j i : Int) : Int := if M 17 j 2 = 0 then pg_ws M j i else M 19 j i + M 17 j 2 * (M 17 j 3 + 1) + (M 17 j 0 - M 19 j i - M 17 j 2) * (M 17 j 3 + 2)
theorem ct_waitSum {G : bc_G} {M : bc_M} {post : bc_R → bc_M → Prop} {j ni i : Int} (hj : 0 ≤ j ∧ j < 2) (hp : PV M j ni) (hi : 0 ≤ i ∧ i < ni) (hc9 : M 17 j 0 < 1000) (k : post (.inr (some (vI (pg_ws M j i)))) M) : bc_Call G yX4_waitSum cX4_waitSum 2 (some .int) 4 0 [vR G 17 j, vI i] M post := by
  obtain ⟨hc, hg, hl, hst, hni, hit⟩ := id hp
  have hii := hit i hi.1 hi.2
  have hi16 : 0 ≤ i ∧ i < 16 := by omega
  have htm : ∀ n, 0 ≤ n → n < M 19 j i → 0 ≤ M 21 (16 * j + i) n ∧ M 21 (16 * j + i) n < 1000000 := fun n h1 h2 => by have := hii.2 n h1 h2; omega
  have hst6 : ∀ n, 0 ≤ n → n < M 17 j 2 → 0 ≤ M 18 j n ∧ M 18 j n < 1000000 := fun n h1 h2 => by have := hst n h1 h2; omega
  refine bc_enter (L := [some (vR G 17 j), some (vI i)]) (by decide) rfl rfl ?_
  refine wp_aload_n eX4_waitSum_0 rfl ?_
  refine gf_X4_18 eX4_waitSum_1 ?_
  refine wp_if_le eX4_waitSum_4 (fun c4 => ?_) (fun c4 => ?_)
  · unfold pg_ws at k
    rw [if_neg (by omega)] at k
    refine wp_aload_n eX4_waitSum_15 rfl ?_
    refine wp_iload_n eX4_waitSum_16 rfl ?_
    refine c_X4_138 eX4_waitSum_17 (ct_wsGaps hj hp hi hc9 ?_)
    refine wp_ireturn eX4_waitSum_20 ?_
    exact k
  · unfold pg_ws at k
    rw [if_pos (by omega)] at k
    refine wp_aload_n eX4_waitSum_7 rfl ?_
    refine wp_iload_n eX4_waitSum_8 rfl ?_
    refine c_X4_135 eX4_waitSum_9 (ct_wsIndex hj hp hi (by omega) ?_)
    refine wp_goto eX4_waitSum_12 ?_
    refine wp_ireturn eX4_waitSum_20 ?_
    exact k
theorem ct_listeningSum {G : bc_G} {M : bc_M} {post : bc_R → bc_M → Prop} {j ni i : Int} (hj : 0 ≤ j ∧ j < 2) (hp : PV M j ni) (hi : 0 ≤ i ∧ i < ni) (hc9 : M 17 j 0 < 1000) (k : post (.inr (some (vI (pg_ls M j i)))) M) : bc_Call G yX4_listeningSum cX4_listeningSum 4 (some .int) 5 0 [vR G 17 j, vI i, vI (pg_ws M j i)] M post := by
  obtain ⟨hc, hg, hl, hst, hni, hit⟩ := id hp
  have hii := hit i hi.1 hi.2
  have hi16 : 0 ≤ i ∧ i < 16 := by omega
  have htm : ∀ n, 0 ≤ n → n < M 19 j i → 0 ≤ M 21 (16 * j + i) n ∧ M 21 (16 * j + i) n < 1000000 := fun n h1 h2 => by have := hii.2 n h1 h2; omega
  have hst6 : ∀ n, 0 ≤ n → n < M 17 j 2 → 0 ≤ M 18 j n ∧ M 18 j n < 1000000 := fun n h1 h2 => by have := hst n h1 h2; omega
  refine bc_enter (L := [some (vR G 17 j), some (vI i), some (vI (pg_ws M j i)), none]) (by decide) rfl rfl ?_
  refine wp_aload_n eX4_listeningSum_0 rfl ?_
  refine gf_X4_18 eX4_listeningSum_1 ?_
  refine wp_if_ne eX4_listeningSum_4 (fun c4 => ?_) (fun c4 => ?_)
  · unfold pg_ls at k
    rw [if_neg (by omega)] at k
    refine wp_aload_n eX4_listeningSum_9 rfl ?_
    refine gf_X4_9 eX4_listeningSum_10 ?_
    refine wp_aload_n eX4_listeningSum_13 rfl ?_
    refine gf_X4_28 eX4_listeningSum_14 ?_
    refine wp_iload_n eX4_listeningSum_17 rfl ?_
    refine al_19 eX4_listeningSum_18 ?_
    refine wp_isub eX4_listeningSum_19 ?_
    refine wp_aload_n eX4_listeningSum_20 rfl ?_
    refine gf_X4_18 eX4_listeningSum_21 ?_
    refine wp_isub eX4_listeningSum_24 ?_
    refine ist_3 eX4_listeningSum_25 ?_
    refine wp_aload_n eX4_listeningSum_26 rfl ?_
    refine gf_X4_28 eX4_listeningSum_27 ?_
    refine wp_iload_n eX4_listeningSum_30 rfl ?_
    refine al_19 eX4_listeningSum_31 ?_
    refine wp_aload_n eX4_listeningSum_32 rfl ?_
    refine gf_X4_18 eX4_listeningSum_33 ?_
    refine wp_aload_n eX4_listeningSum_36 rfl ?_
    refine gf_X4_21 eX4_listeningSum_37 ?_
    refine wp_iconst eX4_listeningSum_40 ?_
    refine wp_iadd eX4_listeningSum_41 ?_
    refine wp_imul eX4_listeningSum_42 ?_
    refine wp_iadd eX4_listeningSum_43 ?_
    refine wp_iload_n eX4_listeningSum_44 rfl ?_
    refine wp_aload_n eX4_listeningSum_45 rfl ?_
    refine gf_X4_21 eX4_listeningSum_46 ?_
    refine wp_iconst eX4_listeningSum_49 ?_
    refine wp_iadd eX4_listeningSum_50 ?_
    refine wp_imul eX4_listeningSum_51 ?_
    refine wp_iadd eX4_listeningSum_52 ?_
    refine wp_ireturn eX4_listeningSum_53 ?_
    exact k
  · unfold pg_ls at k
    rw [if_pos (by omega)] at k
    refine wp_iload_n eX4_listeningSum_7 rfl ?_
    refine wp_ireturn eX4_listeningSum_8 ?_
    exact k
