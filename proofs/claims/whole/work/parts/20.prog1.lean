/-! loops as functions -/
/-- does f take the value s at one of n places from a on -/
def sq_any (f : Int → Int) (s : Int) : Nat → Int → Bool
  | 0, _ => false
  | n + 1, a => decide (f a = s) || sq_any f s n (a + 1)
/-- the first value of f that is s or more, at one of n places from a on; else z -/
def sq_nx (f : Int → Int) (s z : Int) : Nat → Int → Int
  | 0, _ => z
  | n + 1, a => if s ≤ f a then f a else sq_nx f s z n (a + 1)
/-- the widest step of f over n places from a on, p the value before -/
def sq_gap (f : Int → Int) : Nat → Int → Int → Int → Int
  | 0, _, w, _ => w
  | n + 1, a, w, p => sq_gap f n (a + 1) (max w (f a - p)) (f a)
theorem lp_isOnAir {G : bc_G} {M : bc_M} {post : bc_R → bc_M → Prop} {j : Int} (hj : 0 ≤ j ∧ j < 2) {i s : Int} (hi : 0 ≤ i ∧ i < 16) (hs : 0 ≤ M 19 j i ∧ M 19 j i ≤ 6) (ht : ∀ n, 0 ≤ n → n < M 19 j i → 0 ≤ M 21 (16 * j + i) n ∧ M 21 (16 * j + i) n < 1000000) (hz : -2147483648 ≤ s ∧ s < 2147483648) : ∀ (n : Nat) (a : Int) (h1 : a + n = M 19 j i) (h2 : 0 ≤ a) (k : post (.inr (some (vI (if sq_any (M 21 (16 * j + i)) s n a then 1 else 0)))) M), bc_W G RX4 cX4_isOnAir 4 (some .boolean) 1 0 0 2 [some (vR G 17 j), some (vI i), some (vI s), some (vI a)] [] M post := by
  intro n
  induction n with
  | zero =>
    intro a h1 h2 k
    refine wp_iload_n eX4_isOnAir_2 rfl ?_
    refine wp_aload_n eX4_isOnAir_3 rfl ?_
    refine gf_X4_28 eX4_isOnAir_4 ?_
    refine wp_iload_n eX4_isOnAir_7 rfl ?_
    refine al_19 eX4_isOnAir_8 ?_
    refine wp_icmp_ge eX4_isOnAir_9 (fun c9 => ?_) (fun c9 => ?_)
    · refine wp_iconst eX4_isOnAir_32 ?_
      refine wp_zreturn eX4_isOnAir_33 (by decide) ?_
      exact k
    · omega
  | succ n ih =>
    intro a h1 h2 k
    refine wp_iload_n eX4_isOnAir_2 rfl ?_
    refine wp_aload_n eX4_isOnAir_3 rfl ?_
    refine gf_X4_28 eX4_isOnAir_4 ?_
    refine wp_iload_n eX4_isOnAir_7 rfl ?_
    refine al_19 eX4_isOnAir_8 ?_
    refine wp_icmp_ge eX4_isOnAir_9 (fun c9 => ?_) (fun c9 => ?_)
    · omega
    · have ht1 := ht a (by omega) (by omega)
      refine wp_aload_n eX4_isOnAir_12 rfl ?_
      refine gf_X4_33 eX4_isOnAir_13 ?_
      refine wp_iload_n eX4_isOnAir_16 rfl ?_
      refine al_20 eX4_isOnAir_17 ?_
      refine wp_iload_n eX4_isOnAir_18 rfl ?_
      refine al_21 eX4_isOnAir_19 ?_
      refine wp_iload_n eX4_isOnAir_20 rfl ?_
      refine wp_icmp_ne eX4_isOnAir_21 (fun c21 => ?_) (fun c21 => ?_)
      · rw [show sq_any (M 21 (16 * j + i)) s (n + 1) a = sq_any (M 21 (16 * j + i)) s n (a + 1) by simp [sq_any, c21]] at k
        refine inc_3 eX4_isOnAir_26 ?_
        refine wp_goto eX4_isOnAir_29 ?_
        exact ih (a + 1) (by omega) (by omega) k
      · have c21 : M 21 (16 * j + i) a = s := by omega
        rw [show sq_any (M 21 (16 * j + i)) s (n + 1) a = true by simp [sq_any, c21]] at k
        refine wp_iconst eX4_isOnAir_24 ?_
        refine wp_zreturn eX4_isOnAir_25 (by decide) ?_
        exact k
theorem ct_isOnAir {G : bc_G} {M : bc_M} {post : bc_R → bc_M → Prop} {j : Int} (hj : 0 ≤ j ∧ j < 2) {i s : Int} (hi : 0 ≤ i ∧ i < 16) (hs : 0 ≤ M 19 j i ∧ M 19 j i ≤ 6) (ht : ∀ n, 0 ≤ n → n < M 19 j i → 0 ≤ M 21 (16 * j + i) n ∧ M 21 (16 * j + i) n < 1000000) (hz : -2147483648 ≤ s ∧ s < 2147483648) (k : post (.inr (some (vI (if sq_any (M 21 (16 * j + i)) s (M 19 j i).toNat 0 then 1 else 0)))) M) : bc_Call G yX4_isOnAir cX4_isOnAir 4 (some .boolean) 1 0 [vR G 17 j, vI i, vI s] M post := by
  refine bc_enter (L := [some (vR G 17 j), some (vI i), some (vI s), none]) (by decide) rfl rfl ?_
  refine wp_iconst eX4_isOnAir_0 ?_
  refine ist_3 eX4_isOnAir_1 ?_
  exact lp_isOnAir hj hi hs ht hz (M 19 j i).toNat 0 (by omega) (by omega) k
theorem lp_isStart {G : bc_G} {M : bc_M} {post : bc_R → bc_M → Prop} {j : Int} (hj : 0 ≤ j ∧ j < 2) {s : Int} (hg : 0 ≤ M 17 j 2 ∧ M 17 j 2 ≤ 8) (ht : ∀ n, 0 ≤ n → n < M 17 j 2 → 0 ≤ M 18 j n ∧ M 18 j n < 1000000) (hz : -2147483648 ≤ s ∧ s < 2147483648) : ∀ (n : Nat) (a : Int) (h1 : a + n = M 17 j 2) (h2 : 0 ≤ a) (k : post (.inr (some (vI (if sq_any (M 18 j) s n a then 1 else 0)))) M), bc_W G RX4 cX4_isStart 3 (some .boolean) 1 0 0 2 [some (vR G 17 j), some (vI s), some (vI a)] [] M post := by
  intro n
  induction n with
  | zero =>
    intro a h1 h2 k
    refine wp_iload_n eX4_isStart_2 rfl ?_
    refine wp_aload_n eX4_isStart_3 rfl ?_
    refine gf_X4_18 eX4_isStart_4 ?_
    refine wp_icmp_ge eX4_isStart_7 (fun c7 => ?_) (fun c7 => ?_)
    · refine wp_iconst eX4_isStart_28 ?_
      refine wp_zreturn eX4_isStart_29 (by decide) ?_
      exact k
    · omega
  | succ n ih =>
    intro a h1 h2 k
    refine wp_iload_n eX4_isStart_2 rfl ?_
    refine wp_aload_n eX4_isStart_3 rfl ?_
    refine gf_X4_18 eX4_isStart_4 ?_
    refine wp_icmp_ge eX4_isStart_7 (fun c7 => ?_) (fun c7 => ?_)
    · omega
    · have ht1 := ht a (by omega) (by omega)
      refine wp_aload_n eX4_isStart_10 rfl ?_
      refine gf_X4_24 eX4_isStart_11 ?_
      refine wp_iload_n eX4_isStart_14 rfl ?_
      refine al_18 eX4_isStart_15 ?_
      refine wp_iload_n eX4_isStart_16 rfl ?_
      refine wp_icmp_ne eX4_isStart_17 (fun c17 => ?_) (fun c17 => ?_)
      · rw [show sq_any (M 18 j) s (n + 1) a = sq_any (M 18 j) s n (a + 1) by simp [sq_any, c17]] at k
        refine inc_2 eX4_isStart_22 ?_
        refine wp_goto eX4_isStart_25 ?_
        exact ih (a + 1) (by omega) (by omega) k
      · have c17 : M 18 j a = s := by omega
        rw [show sq_any (M 18 j) s (n + 1) a = true by simp [sq_any, c17]] at k
        refine wp_iconst eX4_isStart_20 ?_
        refine wp_zreturn eX4_isStart_21 (by decide) ?_
        exact k
theorem ct_isStart {G : bc_G} {M : bc_M} {post : bc_R → bc_M → Prop} {j : Int} (hj : 0 ≤ j ∧ j < 2) {s : Int} (hg : 0 ≤ M 17 j 2 ∧ M 17 j 2 ≤ 8) (ht : ∀ n, 0 ≤ n → n < M 17 j 2 → 0 ≤ M 18 j n ∧ M 18 j n < 1000000) (hz : -2147483648 ≤ s ∧ s < 2147483648) (k : post (.inr (some (vI (if sq_any (M 18 j) s (M 17 j 2).toNat 0 then 1 else 0)))) M) : bc_Call G yX4_isStart cX4_isStart 3 (some .boolean) 1 0 [vR G 17 j, vI s] M post := by
  refine bc_enter (L := [some (vR G 17 j), some (vI s), none]) (by decide) rfl rfl ?_
  refine wp_iconst eX4_isStart_0 ?_
  refine ist_2 eX4_isStart_1 ?_
  exact lp_isStart hj hg ht hz (M 17 j 2).toNat 0 (by omega) (by omega) k
theorem lp_startFrom {G : bc_G} {M : bc_M} {post : bc_R → bc_M → Prop} {j : Int} (hj : 0 ≤ j ∧ j < 2) {s : Int} (hg : 0 ≤ M 17 j 2 ∧ M 17 j 2 ≤ 8) (ht : ∀ n, 0 ≤ n → n < M 17 j 2 → 0 ≤ M 18 j n ∧ M 18 j n < 1000000) (hg1 : 0 < M 17 j 2) (hc : 0 ≤ M 17 j 0 ∧ M 17 j 0 < 1000000) (hz : -2147483648 ≤ s ∧ s < 2147483648) : ∀ (n : Nat) (a : Int) (h1 : a + n = M 17 j 2) (h2 : 0 ≤ a) (k : post (.inr (some (vI (sq_nx (M 18 j) s (M 18 j 0 + M 17 j 0) n a)))) M), bc_W G RX4 cX4_startFrom 3 (some .int) 1 0 0 2 [some (vR G 17 j), some (vI s), some (vI a)] [] M post := by
  intro n
  induction n with
  | zero =>
    intro a h1 h2 k
    refine wp_iload_n eX4_startFrom_2 rfl ?_
    refine wp_aload_n eX4_startFrom_3 rfl ?_
    refine gf_X4_18 eX4_startFrom_4 ?_
    refine wp_icmp_ge eX4_startFrom_7 (fun c7 => ?_) (fun c7 => ?_)
    · refine wp_aload_n eX4_startFrom_33 rfl ?_
      refine gf_X4_24 eX4_startFrom_34 ?_
      refine wp_iconst eX4_startFrom_37 ?_
      refine al_18 eX4_startFrom_38 ?_
      refine wp_aload_n eX4_startFrom_39 rfl ?_
      refine gf_X4_9 eX4_startFrom_40 ?_
      refine wp_iadd eX4_startFrom_43 ?_
      refine wp_ireturn eX4_startFrom_44 ?_
      exact k
    · omega
  | succ n ih =>
    intro a h1 h2 k
    refine wp_iload_n eX4_startFrom_2 rfl ?_
    refine wp_aload_n eX4_startFrom_3 rfl ?_
    refine gf_X4_18 eX4_startFrom_4 ?_
    refine wp_icmp_ge eX4_startFrom_7 (fun c7 => ?_) (fun c7 => ?_)
    · omega
    · have ht1 := ht a (by omega) (by omega)
      refine wp_aload_n eX4_startFrom_10 rfl ?_
      refine gf_X4_24 eX4_startFrom_11 ?_
      refine wp_iload_n eX4_startFrom_14 rfl ?_
      refine al_18 eX4_startFrom_15 ?_
      refine wp_iload_n eX4_startFrom_16 rfl ?_
      refine wp_icmp_lt eX4_startFrom_17 (fun c17 => ?_) (fun c17 => ?_)
      · rw [show sq_nx (M 18 j) s (M 18 j 0 + M 17 j 0) (n + 1) a = sq_nx (M 18 j) s (M 18 j 0 + M 17 j 0) n (a + 1) by simp only [sq_nx]; rw [if_neg (by omega)]] at k
        refine inc_2 eX4_startFrom_27 ?_
        refine wp_goto eX4_startFrom_30 ?_
        exact ih (a + 1) (by omega) (by omega) k
      · rw [show sq_nx (M 18 j) s (M 18 j 0 + M 17 j 0) (n + 1) a = M 18 j a by simp only [sq_nx]; rw [if_pos (by omega)]] at k
        refine wp_aload_n eX4_startFrom_20 rfl ?_
        refine gf_X4_24 eX4_startFrom_21 ?_
        refine wp_iload_n eX4_startFrom_24 rfl ?_
        refine al_18 eX4_startFrom_25 ?_
        refine wp_ireturn eX4_startFrom_26 ?_
        exact k
theorem ct_startFrom {G : bc_G} {M : bc_M} {post : bc_R → bc_M → Prop} {j : Int} (hj : 0 ≤ j ∧ j < 2) {s : Int} (hg : 0 ≤ M 17 j 2 ∧ M 17 j 2 ≤ 8) (ht : ∀ n, 0 ≤ n → n < M 17 j 2 → 0 ≤ M 18 j n ∧ M 18 j n < 1000000) (hg1 : 0 < M 17 j 2) (hc : 0 ≤ M 17 j 0 ∧ M 17 j 0 < 1000000) (hz : -2147483648 ≤ s ∧ s < 2147483648) (k : post (.inr (some (vI (sq_nx (M 18 j) s (M 18 j 0 + M 17 j 0) (M 17 j 2).toNat 0)))) M) : bc_Call G yX4_startFrom cX4_startFrom 3 (some .int) 1 0 [vR G 17 j, vI s] M post := by
  refine bc_enter (L := [some (vR G 17 j), some (vI s), none]) (by decide) rfl rfl ?_
  refine wp_iconst eX4_startFrom_0 ?_
  refine ist_2 eX4_startFrom_1 ?_
  exact lp_startFrom hj hg ht hg1 hc hz (M 17 j 2).toNat 0 (by omega) (by omega) k
theorem lp_firstFrom {G : bc_G} {M : bc_M} {post : bc_R → bc_M → Prop} {j : Int} (hj : 0 ≤ j ∧ j < 2) {i t s : Int} (hi : 0 ≤ i ∧ i < 16) (hs : 0 ≤ M 19 j i ∧ M 19 j i ≤ 6) (ht : ∀ n, 0 ≤ n → n < M 19 j i → 0 ≤ M 21 (16 * j + i) n ∧ M 21 (16 * j + i) n < 1000000) (hs1 : 0 < M 19 j i) (hc : 0 < M 17 j 0 ∧ M 17 j 0 < 1000000) (hz : 0 ≤ s ∧ s < 1000000) (htt : 0 ≤ t ∧ t < 100000000) : ∀ (n : Nat) (a : Int) (h1 : a + n = M 19 j i) (h2 : 0 ≤ a) (k : post (.inr (some (vI (t + sq_nx (M 21 (16 * j + i)) s (M 21 (16 * j + i) 0 + M 17 j 0) n a - s)))) M), bc_W G RX4 cX4_firstFrom 5 (some .int) 3 0 0 9 [some (vR G 17 j), some (vI i), some (vI t), some (vI s), some (vI a)] [] M post := by
  intro n
  induction n with
  | zero =>
    intro a h1 h2 k
    refine wp_iload eX4_firstFrom_9 rfl ?_
    refine wp_aload_n eX4_firstFrom_11 rfl ?_
    refine gf_X4_28 eX4_firstFrom_12 ?_
    refine wp_iload_n eX4_firstFrom_15 rfl ?_
    refine al_19 eX4_firstFrom_16 ?_
    refine wp_icmp_ge eX4_firstFrom_17 (fun c17 => ?_) (fun c17 => ?_)
    · refine wp_iload_n eX4_firstFrom_53 rfl ?_
      refine wp_aload_n eX4_firstFrom_54 rfl ?_
      refine gf_X4_33 eX4_firstFrom_55 ?_
      refine wp_iload_n eX4_firstFrom_58 rfl ?_
      refine al_20 eX4_firstFrom_59 ?_
      refine wp_iconst eX4_firstFrom_60 ?_
      refine al_21 eX4_firstFrom_61 ?_
      refine wp_iadd eX4_firstFrom_62 ?_
      refine wp_aload_n eX4_firstFrom_63 rfl ?_
      refine gf_X4_9 eX4_firstFrom_64 ?_
      refine wp_iadd eX4_firstFrom_67 ?_
      refine wp_iload_n eX4_firstFrom_68 rfl ?_
      refine wp_isub eX4_firstFrom_69 ?_
      refine wp_ireturn eX4_firstFrom_70 ?_
      simpa only [sq_nx, Int.add_assoc] using k
    · omega
  | succ n ih =>
    intro a h1 h2 k
    refine wp_iload eX4_firstFrom_9 rfl ?_
    refine wp_aload_n eX4_firstFrom_11 rfl ?_
    refine gf_X4_28 eX4_firstFrom_12 ?_
    refine wp_iload_n eX4_firstFrom_15 rfl ?_
    refine al_19 eX4_firstFrom_16 ?_
    refine wp_icmp_ge eX4_firstFrom_17 (fun c17 => ?_) (fun c17 => ?_)
    · omega
    · have ht1 := ht a (by omega) (by omega)
      refine wp_aload_n eX4_firstFrom_20 rfl ?_
      refine gf_X4_33 eX4_firstFrom_21 ?_
      refine wp_iload_n eX4_firstFrom_24 rfl ?_
      refine al_20 eX4_firstFrom_25 ?_
      refine wp_iload eX4_firstFrom_26 rfl ?_
      refine al_21 eX4_firstFrom_28 ?_
      refine wp_iload_n eX4_firstFrom_29 rfl ?_
      refine wp_icmp_lt eX4_firstFrom_30 (fun c30 => ?_) (fun c30 => ?_)
      · rw [show sq_nx (M 21 (16 * j + i)) s (M 21 (16 * j + i) 0 + M 17 j 0) (n + 1) a = sq_nx (M 21 (16 * j + i)) s (M 21 (16 * j + i) 0 + M 17 j 0) n (a + 1) by simp only [sq_nx]; rw [if_neg (by omega)]] at k
        refine inc_4 eX4_firstFrom_47 ?_
        refine wp_goto eX4_firstFrom_50 ?_
        exact ih (a + 1) (by omega) (by omega) k
      · rw [show sq_nx (M 21 (16 * j + i)) s (M 21 (16 * j + i) 0 + M 17 j 0) (n + 1) a = M 21 (16 * j + i) a by simp only [sq_nx]; rw [if_pos (by omega)]] at k
        refine wp_iload_n eX4_firstFrom_33 rfl ?_
        refine wp_aload_n eX4_firstFrom_34 rfl ?_
        refine gf_X4_33 eX4_firstFrom_35 ?_
        refine wp_iload_n eX4_firstFrom_38 rfl ?_
        refine al_20 eX4_firstFrom_39 ?_
        refine wp_iload eX4_firstFrom_40 rfl ?_
        refine al_21 eX4_firstFrom_42 ?_
        refine wp_iadd eX4_firstFrom_43 ?_
        refine wp_iload_n eX4_firstFrom_44 rfl ?_
        refine wp_isub eX4_firstFrom_45 ?_
        refine wp_ireturn eX4_firstFrom_46 ?_
        simpa only [sq_nx, Int.add_assoc] using k
theorem ct_firstFrom {G : bc_G} {M : bc_M} {post : bc_R → bc_M → Prop} {j : Int} (hj : 0 ≤ j ∧ j < 2) {i t : Int} (hi : 0 ≤ i ∧ i < 16) (hs : 0 ≤ M 19 j i ∧ M 19 j i ≤ 6) (ht : ∀ n, 0 ≤ n → n < M 19 j i → 0 ≤ M 21 (16 * j + i) n ∧ M 21 (16 * j + i) n < 1000000) (hs1 : 0 < M 19 j i) (hc : 0 < M 17 j 0 ∧ M 17 j 0 < 1000000) (htt : 0 ≤ t ∧ t < 100000000) (k : post (.inr (some (vI (t + sq_nx (M 21 (16 * j + i)) (t % M 17 j 0) (M 21 (16 * j + i) 0 + M 17 j 0) (M 19 j i).toNat 0 - t % M 17 j 0)))) M) : bc_Call G yX4_firstFrom cX4_firstFrom 5 (some .int) 3 0 [vR G 17 j, vI i, vI t] M post := by
  refine bc_enter (L := [some (vR G 17 j), some (vI i), some (vI t), none, none]) (by decide) rfl rfl ?_
  refine wp_aload_n eX4_firstFrom_0 rfl ?_
  refine wp_iload_n eX4_firstFrom_1 rfl ?_
  refine c_X4_100 eX4_firstFrom_2 (ct_inCycle ?_)
  refine ist_3 eX4_firstFrom_5 ?_
  refine wp_iconst eX4_firstFrom_6 ?_
  refine ist_4 eX4_firstFrom_7 ?_
  exact lp_firstFrom hj hi hs ht hs1 hc ⟨Int.emod_nonneg _ (by omega), by have := Int.emod_lt_of_pos t hc.1; omega⟩ htt (M 19 j i).toNat 0 (by omega) (by omega) k
