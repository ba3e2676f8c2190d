/-! products of bounded numbers -/
theorem bm_abs {a b A B : Int} (ha : -A ≤ a ∧ a ≤ A) (hb : -B ≤ b ∧ b ≤ B) : -(A * B) ≤ a * b ∧ a * b ≤ A * B := by
  have hA : 0 ≤ A := by omega
  have hB : 0 ≤ B := by omega
  have h1 : (A - a) * (B - b) ≥ 0 := Int.mul_nonneg (by omega) (by omega)
  have h2 : (A + a) * (B + b) ≥ 0 := Int.mul_nonneg (by omega) (by omega)
  have h3 : (A - a) * (B + b) ≥ 0 := Int.mul_nonneg (by omega) (by omega)
  have h4 : (A + a) * (B - b) ≥ 0 := Int.mul_nonneg (by omega) (by omega)
  have e1 : (A - a) * (B - b) = A * B - A * b - a * B + a * b := by rw [Int.sub_mul, Int.mul_sub, Int.mul_sub]; omega
  have e2 : (A + a) * (B + b) = A * B + A * b + a * B + a * b := by rw [Int.add_mul, Int.mul_add, Int.mul_add]; omega
  have e3 : (A - a) * (B + b) = A * B + A * b - a * B - a * b := by rw [Int.sub_mul, Int.mul_add, Int.mul_add]; omega
  have e4 : (A + a) * (B - b) = A * B - A * b + a * B - a * b := by rw [Int.add_mul, Int.mul_sub, Int.mul_sub]; omega
  omega
theorem bm_nn {a b A B : Int} (ha : 0 ≤ a ∧ a ≤ A) (hb : 0 ≤ b ∧ b ≤ B) : 0 ≤ a * b ∧ a * b ≤ A * B := ⟨Int.mul_nonneg ha.1 hb.1, Int.mul_le_mul ha.2 hb.2 hb.1 (by omega)⟩
theorem sq_nx_rng {f : Int → Int} {s z lo hi : Int} (hz : lo ≤ z ∧ z ≤ hi) : ∀ (n : Nat) (a : Int), (∀ q, a ≤ q → q < a + n → lo ≤ f q ∧ f q ≤ hi) → lo ≤ sq_nx f s z n a ∧ sq_nx f s z n a ≤ hi
  | 0, _, _ => hz
  | n + 1, a, h => by
    simp only [sq_nx]
    split
    · exact h a (by omega) (by omega)
    · exact sq_nx_rng hz n (a + 1) (fun q h1 h2 => h q (by omega) (by omega))
/-- a program that lies in order -/
def PV (M : bc_M) (j ni : Int) : Prop := (0 < M 17 j 0 ∧ M 17 j 0 ≤ 1000) ∧ (0 ≤ M 17 j 2 ∧ M 17 j 2 ≤ 8) ∧ (1 ≤ M 17 j 3 ∧ M 17 j 3 ≤ 4) ∧ (∀ k, 0 ≤ k → k < M 17 j 2 → 0 ≤ M 18 j k ∧ M 18 j k < M 17 j 0) ∧ (0 ≤ ni ∧ ni ≤ 16) ∧ ∀ i, 0 ≤ i → i < ni → (1 ≤ M 19 j i ∧ M 19 j i ≤ 6) ∧ ∀ n, 0 ≤ n → n < M 19 j i → 0 ≤ M 21 (16 * j + i) n ∧ M 21 (16 * j + i) n < M 17 j 0
def pg_on (M : bc_M) (j i s : Int) : Bool := sq_any (M 21 (16 * j + i)) s (M 19 j i).toNat 0
def pg_nx (M : bc_M) (j i s : Int) : Int := sq_nx (M 21 (16 * j + i)) s (M 21 (16 * j + i) 0 + M 17 j 0) (M 19 j i).toNat 0
def pg_sx (M : bc_M) (j s : Int) : Int := sq_nx (M 18 j) s (M 18 j 0 + M 17 j 0) (M 17 j 2).toNat 0
def pg_st (M : bc_M) (j s : Int) : Bool := sq_any (M 18 j) s (M 17 j 2).toNat 0
def pg_from (M : bc_M) (j i s : Int) : Int := if 0 < M 17 j 2 ∧ pg_on M j i s = false then pg_sx M j s + M 17 j 3 else s
def pg_wait (M : bc_M) (j i t : Int) : Int := pg_from M j i (t % M 17 j 0) + pg_nx M j i (pg_from M j i (t % M 17 j 0) % M 17 j 0) - pg_from M j i (t % M 17 j 0) % M 17 j 0 - t % M 17 j 0 + 1
def pg_listen (M : bc_M) (j i t : Int) : Int := if M 17 j 2 = 0 then pg_wait M j i t else if pg_on M j i (t % M 17 j 0) then 1 else if pg_st M j (t % M 17 j 0) then M 17 j 3 + 1 else M 17 j 3 + 2
def pg_last (M : bc_M) (j i : Int) : Int := M 21 (16 * j + i) (max 0 (M 19 j i - 1)) - M 17 j 0
def pg_gap (M : bc_M) (j i : Int) : Int := sq_gap (M 21 (16 * j + i)) (M 19 j i).toNat 0 0 (pg_last M j i)
def sq_wg (f : Int → Int) : Nat → Int → Int → Int → Int
  | 0, _, s, _ => s
  | n + 1, a, s, p => sq_wg f n (a + 1) (s + (f a - p) * (f a - p + 1) / 2) (f a)
theorem pg_nx_rng {M : bc_M} {j ni i s : Int} (h : PV M j ni) (hi : 0 ≤ i ∧ i < ni) : 0 ≤ pg_nx M j i s ∧ pg_nx M j i s ≤ 2 * M 17 j 0 := by
  obtain ⟨h1, h2, h3, h4, h5, h6⟩ := h
  have h7 := h6 i hi.1 hi.2
  have h8 := h7.2 0 (by omega) (by omega)
  exact sq_nx_rng (by omega) _ _ (fun q a b => by have := h7.2 q a (by omega); omega)
theorem pg_sx_rng {M : bc_M} {j ni s : Int} (h : PV M j ni) (hg : 0 < M 17 j 2) : 0 ≤ pg_sx M j s ∧ pg_sx M j s ≤ 2 * M 17 j 0 := by
  obtain ⟨h1, h2, h3, h4, h5, h6⟩ := h
  have h8 := h4 0 (by omega) hg
  exact sq_nx_rng (by omega) _ _ (fun q a b => by have := h4 q a (by omega); omega)
theorem pg_from_rng {M : bc_M} {j ni i s : Int} (h : PV M j ni) (hs : 0 ≤ s ∧ s < M 17 j 0) : 0 ≤ pg_from M j i s ∧ pg_from M j i s ≤ 2 * M 17 j 0 + 4 := by
  unfold pg_from
  split
  · have := pg_sx_rng (s := s) h (by omega)
    have := h.2.2.1
    omega
  · omega
theorem pg_wait_rng {M : bc_M} {j ni i t : Int} (h : PV M j ni) (hi : 0 ≤ i ∧ i < ni) : -2000 ≤ pg_wait M j i t ∧ pg_wait M j i t ≤ 5000 := by
  have h1 := h.1
  have h2 := Int.emod_nonneg t (b := M 17 j 0) (by omega)
  have h3 := Int.emod_lt_of_pos t h1.1
  have h4 := pg_from_rng (i := i) h ⟨h2, h3⟩
  have h5 := pg_nx_rng (s := pg_from M j i (t % M 17 j 0) % M 17 j 0) h hi
  have h6 := Int.emod_nonneg (pg_from M j i (t % M 17 j 0)) (b := M 17 j 0) (by omega)
  have h7 := Int.emod_lt_of_pos (pg_from M j i (t % M 17 j 0)) h1.1
  unfold pg_wait
  omega
theorem ct_waitFor {G : bc_G} {M : bc_M} {post : bc_R → bc_M → Prop} {j ni i : Int} (hj : 0 ≤ j ∧ j < 2) (hp : PV M j ni) (hi : 0 ≤ i ∧ i < ni) {t : Int} (htt : 0 ≤ t ∧ t < 100000000) (k : post (.inr (some (vI (pg_wait M j i t)))) M) : bc_Call G yX4_waitFor cX4_waitFor 5 (some .int) 4 0 [vR G 17 j, vI i, vI t] M post := by
  obtain ⟨hc, hg, hl, hst, hni, hit⟩ := id hp
  have hii := hit i hi.1 hi.2
  have hi16 : 0 ≤ i ∧ i < 16 := by omega
  have htm : ∀ n, 0 ≤ n → n < M 19 j i → 0 ≤ M 21 (16 * j + i) n ∧ M 21 (16 * j + i) n < 1000000 := fun n h1 h2 => by have := hii.2 n h1 h2; omega
  have hst6 : ∀ n, 0 ≤ n → n < M 17 j 2 → 0 ≤ M 18 j n ∧ M 18 j n < 1000000 := fun n h1 h2 => by have := hst n h1 h2; omega
  refine bc_enter (L := [some (vR G 17 j), some (vI i), some (vI t), none, none]) (by decide) rfl rfl ?_
  refine wp_aload_n eX4_waitFor_0 rfl ?_
  refine wp_iload_n eX4_waitFor_1 rfl ?_
  refine c_X4_100 eX4_waitFor_2 (ct_inCycle ?_)
  have hs0 := Int.emod_nonneg t (b := M 17 j 0) (by omega)
  have hs1 := Int.emod_lt_of_pos t hc.1
  refine ist_3 eX4_waitFor_5 ?_
  refine wp_iload_n eX4_waitFor_6 rfl ?_
  refine ist_4 eX4_waitFor_7 ?_
  refine wp_aload_n eX4_waitFor_9 rfl ?_
  refine gf_X4_18 eX4_waitFor_10 ?_
  refine wp_if_le eX4_waitFor_13 (fun c13 => ?_) (fun c13 => ?_)
  · have hfc : pg_from M j i (t % M 17 j 0) = t % M 17 j 0 := by unfold pg_from; rw [if_neg (by omega)]
    have hfin := k
    unfold pg_wait at hfin
    rw [hfc] at hfin
    refine wp_aload_n eX4_waitFor_37 rfl ?_
    refine wp_iload_n eX4_waitFor_38 rfl ?_
    refine wp_iload eX4_waitFor_39 rfl ?_
    refine c_X4_110 eX4_waitFor_41 (ct_firstFrom hj hi16 ⟨by omega, by omega⟩ htm (by omega) (by omega) (by omega) ?_)
    refine wp_iload_n eX4_waitFor_44 rfl ?_
    refine wp_isub eX4_waitFor_45 ?_
    refine wp_iconst eX4_waitFor_46 ?_
    refine wp_iadd eX4_waitFor_47 ?_
    refine wp_ireturn eX4_waitFor_48 ?_
    unfold pg_nx at hfin
    exact hfin
  · refine wp_aload_n eX4_waitFor_16 rfl ?_
    refine wp_iload_n eX4_waitFor_17 rfl ?_
    refine wp_iload_n eX4_waitFor_18 rfl ?_
    refine c_X4_103 eX4_waitFor_19 (ct_isOnAir hj hi16 ⟨by omega, by omega⟩ htm (by omega) ?_)
    refine wp_if_ne eX4_waitFor_22 (fun c22 => ?_) (fun c22 => ?_) (by split <;> omega)
    · have hon : pg_on M j i (t % M 17 j 0) = true := by
        cases h : pg_on M j i (t % M 17 j 0)
        · unfold pg_on at h; rw [h] at c22; exact absurd rfl c22
        · rfl
      have hfc : pg_from M j i (t % M 17 j 0) = t % M 17 j 0 := by unfold pg_from; rw [if_neg (by rw [hon]; simp)]
      have hfin := k
      unfold pg_wait at hfin
      rw [hfc] at hfin
      refine wp_aload_n eX4_waitFor_37 rfl ?_
      refine wp_iload_n eX4_waitFor_38 rfl ?_
      refine wp_iload eX4_waitFor_39 rfl ?_
      refine c_X4_110 eX4_waitFor_41 (ct_firstFrom hj hi16 ⟨by omega, by omega⟩ htm (by omega) (by omega) (by omega) ?_)
      refine wp_iload_n eX4_waitFor_44 rfl ?_
      refine wp_isub eX4_waitFor_45 ?_
      refine wp_iconst eX4_waitFor_46 ?_
      refine wp_iadd eX4_waitFor_47 ?_
      refine wp_ireturn eX4_waitFor_48 ?_
      unfold pg_nx at hfin
      exact hfin
    · have hon : pg_on M j i (t % M 17 j 0) = false := by
        cases h : pg_on M j i (t % M 17 j 0)
        · rfl
        · unfold pg_on at h; rw [h] at c22; exact absurd (by decide) c22
      have hfc : pg_from M j i (t % M 17 j 0) = pg_sx M j (t % M 17 j 0) + M 17 j 3 := by unfold pg_from; rw [if_pos ⟨by omega, hon⟩]
      have hfin := k
      unfold pg_wait at hfin
      rw [hfc] at hfin
      refine wp_aload_n eX4_waitFor_25 rfl ?_
      refine wp_iload_n eX4_waitFor_26 rfl ?_
      refine c_X4_107 eX4_waitFor_27 (ct_startFrom hj hg hst6 (by omega) (by omega) (by omega) ?_)
      have hsx := pg_sx_rng (s := t % M 17 j 0) hp (by omega)
      rw [show sq_nx (M 18 j) (t % M 17 j 0) (M 18 j 0 + M 17 j 0) (M 17 j 2).toNat 0 = pg_sx M j (t % M 17 j 0) from rfl]
      refine wp_aload_n eX4_waitFor_30 rfl ?_
      refine gf_X4_21 eX4_waitFor_31 ?_
      refine wp_iadd eX4_waitFor_34 ?_
      refine ist_4 eX4_waitFor_35 ?_
      refine wp_aload_n eX4_waitFor_37 rfl ?_
      refine wp_iload_n eX4_waitFor_38 rfl ?_
      refine wp_iload eX4_waitFor_39 rfl ?_
      refine c_X4_110 eX4_waitFor_41 (ct_firstFrom hj hi16 ⟨by omega, by omega⟩ htm (by omega) (by omega) (by omega) ?_)
      refine wp_iload_n eX4_waitFor_44 rfl ?_
      refine wp_isub eX4_waitFor_45 ?_
      refine wp_iconst eX4_waitFor_46 ?_
      refine wp_iadd eX4_waitFor_47 ?_
      refine wp_ireturn eX4_waitFor_48 ?_
      unfold pg_nx at hfin
      exact hfin
theorem ct_listeningFor {G : bc_G} {M : bc_M} {post : bc_R → bc_M → Prop} {j ni i : Int} (hj : 0 ≤ j ∧ j < 2) (hp : PV M j ni) (hi : 0 ≤ i ∧ i < ni) {t : Int} (htt : 0 ≤ t ∧ t < 100000000) (k : post (.inr (some (vI (pg_listen M j i t)))) M) : bc_Call G yX4_listeningFor cX4_listeningFor 4 (some .int) 5 0 [vR G 17 j, vI i, vI t] M post := by
  obtain ⟨hc, hg, hl, hst, hni, hit⟩ := id hp
  have hii := hit i hi.1 hi.2
  have hi16 : 0 ≤ i ∧ i < 16 := by omega
  have htm : ∀ n, 0 ≤ n → n < M 19 j i → 0 ≤ M 21 (16 * j + i) n ∧ M 21 (16 * j + i) n < 1000000 := fun n h1 h2 => by have := hii.2 n h1 h2; omega
  have hst6 : ∀ n, 0 ≤ n → n < M 17 j 2 → 0 ≤ M 18 j n ∧ M 18 j n < 1000000 := fun n h1 h2 => by have := hst n h1 h2; omega
  refine bc_enter (L := [some (vR G 17 j), some (vI i), some (vI t), none]) (by decide) rfl rfl ?_
  refine wp_aload_n eX4_listeningFor_0 rfl ?_
  refine wp_iload_n eX4_listeningFor_1 rfl ?_
  refine c_X4_100 eX4_listeningFor_2 (ct_inCycle ?_)
  have hs0 := Int.emod_nonneg t (b := M 17 j 0) (by omega)
  have hs1 := Int.emod_lt_of_pos t hc.1
  refine ist_3 eX4_listeningFor_5 ?_
  refine wp_aload_n eX4_listeningFor_6 rfl ?_
  refine gf_X4_18 eX4_listeningFor_7 ?_
  refine wp_if_ne eX4_listeningFor_10 (fun c10 => ?_) (fun c10 => ?_)
  · unfold pg_listen at k
    rw [if_neg c10] at k
    refine wp_aload_n eX4_listeningFor_24 rfl ?_
    refine wp_iload_n eX4_listeningFor_25 rfl ?_
    refine wp_iload_n eX4_listeningFor_26 rfl ?_
    refine c_X4_103 eX4_listeningFor_27 (ct_isOnAir hj hi16 ⟨by omega, by omega⟩ htm (by omega) ?_)
    refine wp_if_eq eX4_listeningFor_30 (fun c30 => ?_) (fun c30 => ?_) (by split <;> omega)
    · have hon : pg_on M j i (t % M 17 j 0) = false := by
        cases h : pg_on M j i (t % M 17 j 0)
        · rfl
        · unfold pg_on at h; rw [h] at c30; exact absurd c30 (by decide)
      rw [hon] at k
      refine wp_aload_n eX4_listeningFor_35 rfl ?_
      refine wp_iload_n eX4_listeningFor_36 rfl ?_
      refine c_X4_113 eX4_listeningFor_37 (ct_isStart hj hg hst6 (by omega) ?_)
      refine wp_if_eq eX4_listeningFor_40 (fun c40 => ?_) (fun c40 => ?_) (by split <;> omega)
      · have hon : pg_st M j (t % M 17 j 0) = false := by
          cases h : pg_st M j (t % M 17 j 0)
          · rfl
          · unfold pg_st at h; rw [h] at c40; exact absurd c40 (by decide)
        rw [hon] at k
        refine wp_aload_n eX4_listeningFor_52 rfl ?_
        refine gf_X4_21 eX4_listeningFor_53 ?_
        refine wp_iconst eX4_listeningFor_56 ?_
        refine wp_iadd eX4_listeningFor_57 ?_
        refine wp_ireturn eX4_listeningFor_58 ?_
        exact k
      · have hon : pg_st M j (t % M 17 j 0) = true := by
          cases h : pg_st M j (t % M 17 j 0)
          · unfold pg_st at h; rw [h] at c40; exact absurd rfl c40
          · rfl
        rw [hon] at k
        refine wp_aload_n eX4_listeningFor_43 rfl ?_
        refine gf_X4_21 eX4_listeningFor_44 ?_
        refine wp_iconst eX4_listeningFor_47 ?_
        refine wp_iadd eX4_listeningFor_48 ?_
        refine wp_goto eX4_listeningFor_49 ?_
        refine wp_ireturn eX4_listeningFor_58 ?_
        exact k
    · have hon : pg_on M j i (t % M 17 j 0) = true := by
        cases h : pg_on M j i (t % M 17 j 0)
        · unfold pg_on at h; rw [h] at c30; exact absurd rfl c30
        · rfl
      rw [hon] at k
      refine wp_iconst eX4_listeningFor_33 ?_
      refine wp_ireturn eX4_listeningFor_34 ?_
      exact k
  · unfold pg_listen at k
    rw [if_pos (by omega)] at k
    have hfc : pg_from M j i (t % M 17 j 0) = t % M 17 j 0 := by unfold pg_from; rw [if_neg (by omega)]
    unfold pg_wait at k
    rw [hfc] at k
    unfold pg_nx at k
    refine wp_aload_n eX4_listeningFor_13 rfl ?_
    refine wp_iload_n eX4_listeningFor_14 rfl ?_
    refine wp_iload_n eX4_listeningFor_15 rfl ?_
    refine c_X4_110 eX4_listeningFor_16 (ct_firstFrom hj hi16 ⟨by omega, by omega⟩ htm (by omega) (by omega) (by omega) ?_)
    refine wp_iload_n eX4_listeningFor_19 rfl ?_
    refine wp_isub eX4_listeningFor_20 ?_
    refine wp_iconst eX4_listeningFor_21 ?_
    refine wp_iadd eX4_listeningFor_22 ?_
    refine wp_ireturn eX4_listeningFor_23 ?_
    exact k
theorem lp_widestGap {G : bc_G} {M : bc_M} {post : bc_R → bc_M → Prop} {j i : Int} (hj : 0 ≤ j ∧ j < 2) (hi : 0 ≤ i ∧ i < 16) (hs : 0 ≤ M 19 j i ∧ M 19 j i ≤ 6) (ht : ∀ n, 0 ≤ n → n < M 19 j i → 0 ≤ M 21 (16 * j + i) n ∧ M 21 (16 * j + i) n < 1000000) : ∀ (n : Nat) (a w q : Int) (h1 : a + n = M 19 j i) (h2 : 0 ≤ a) (hw : 0 ≤ w ∧ w ≤ 10000000) (hq : -1000000 ≤ q ∧ q ≤ 1000000) (k : post (.inr (some (vI (sq_gap (M 21 (16 * j + i)) n a w q)))) M), bc_W G RX4 cX4_widestGap 5 (some .int) 3 0 0 16 [some (vR G 17 j), some (vI i), some (vI w), some (vI q), some (vI a)] [] M post := by
  intro n
  induction n with
  | zero =>
    intro a w q h1 h2 hw hq k
    refine wp_iload eX4_widestGap_16 rfl ?_
    refine wp_aload_n eX4_widestGap_18 rfl ?_
    refine gf_X4_28 eX4_widestGap_19 ?_
    refine wp_iload_n eX4_widestGap_22 rfl ?_
    refine al_19 eX4_widestGap_23 ?_
    refine wp_icmp_ge eX4_widestGap_24 (fun c24 => ?_) (fun c24 => ?_)
    · refine wp_iload_n eX4_widestGap_59 rfl ?_
      refine wp_ireturn eX4_widestGap_60 ?_
      exact k
    · omega
  | succ n ih =>
    intro a w q h1 h2 hw hq k
    refine wp_iload eX4_widestGap_16 rfl ?_
    refine wp_aload_n eX4_widestGap_18 rfl ?_
    refine gf_X4_28 eX4_widestGap_19 ?_
    refine wp_iload_n eX4_widestGap_22 rfl ?_
    refine al_19 eX4_widestGap_23 ?_
    refine wp_icmp_ge eX4_widestGap_24 (fun c24 => ?_) (fun c24 => ?_)
    · omega
    · have ht1 := ht a (by omega) (by omega)
      refine wp_iload_n eX4_widestGap_27 rfl ?_
      refine wp_aload_n eX4_widestGap_28 rfl ?_
      refine gf_X4_33 eX4_widestGap_29 ?_
      refine wp_iload_n eX4_widestGap_32 rfl ?_
      refine al_20 eX4_widestGap_33 ?_
      refine wp_iload eX4_widestGap_34 rfl ?_
      refine al_21 eX4_widestGap_36 ?_
      refine wp_iload_n eX4_widestGap_37 rfl ?_
      refine wp_isub eX4_widestGap_38 ?_
      refine c_X4_61 eX4_widestGap_39 (ct_max ?_)
      refine ist_2 eX4_widestGap_42 ?_
      refine wp_aload_n eX4_widestGap_43 rfl ?_
      refine gf_X4_33 eX4_widestGap_44 ?_
      refine wp_iload_n eX4_widestGap_47 rfl ?_
      refine al_20 eX4_widestGap_48 ?_
      refine wp_iload eX4_widestGap_49 rfl ?_
      refine al_21 eX4_widestGap_51 ?_
      refine ist_3 eX4_widestGap_52 ?_
      refine inc_4 eX4_widestGap_53 ?_
      refine wp_goto eX4_widestGap_56 ?_
      exact ih (a + 1) _ _ (by omega) (by omega) (by omega) (by omega) k
theorem ct_widestGap {G : bc_G} {M : bc_M} {post : bc_R → bc_M → Prop} {j ni i : Int} (hj : 0 ≤ j ∧ j < 2) (hp : PV M j ni) (hi : 0 ≤ i ∧ i < ni) (k : post (.inr (some (vI (pg_gap M j i)))) M) : bc_Call G yX4_widestGap cX4_widestGap 5 (some .int) 3 0 [vR G 17 j, vI i] M post := by
  obtain ⟨hc, hg, hl, hst, hni, hit⟩ := id hp
  have hii := hit i hi.1 hi.2
  have hi16 : 0 ≤ i ∧ i < 16 := by omega
  have htm : ∀ n, 0 ≤ n → n < M 19 j i → 0 ≤ M 21 (16 * j + i) n ∧ M 21 (16 * j + i) n < 1000000 := fun n h1 h2 => by have := hii.2 n h1 h2; omega
  have hst6 : ∀ n, 0 ≤ n → n < M 17 j 2 → 0 ≤ M 18 j n ∧ M 18 j n < 1000000 := fun n h1 h2 => by have := hst n h1 h2; omega
  refine bc_enter (L := [some (vR G 17 j), some (vI i), none, none, none]) (by decide) rfl rfl ?_
  refine wp_iconst eX4_widestGap_0 ?_
  refine ist_2 eX4_widestGap_1 ?_
  refine wp_aload_n eX4_widestGap_2 rfl ?_
  refine wp_iload_n eX4_widestGap_3 rfl ?_
  refine c_X4_117 eX4_widestGap_4 (ct_lastTime ?_)
  have hla := hii.2 (max 0 (M 19 j i - 1)) (by omega) (by omega)
  refine wp_aload_n eX4_widestGap_7 rfl ?_
  refine gf_X4_9 eX4_widestGap_8 ?_
  refine wp_isub eX4_widestGap_11 ?_
  refine ist_3 eX4_widestGap_12 ?_
  refine wp_iconst eX4_widestGap_13 ?_
  refine ist_4 eX4_widestGap_14 ?_
  exact lp_widestGap hj hi16 ⟨by omega, by omega⟩ htm (M 19 j i).toNat 0 0 _ (by omega) (by omega) (by omega) (by omega) k
