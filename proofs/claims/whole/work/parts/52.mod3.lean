theorem lp_aside {G : bc_G} {M : bc_M} {post : bc_R → bc_M → Prop} {a : Int} {g : Int → Int} (ha : 0 ≤ a ∧ a < 7) : ∀ (n : Nat) (v : Int) (h1 : v + n = 206) (h2 : 0 ≤ v) (k : post (.inr none) (bc_row M 40 0 (cpF g (M 34 0) (206 * a) 206))), bc_W G RX9 cX9_putAside 3 none 1 0 0 2 [some (vR G 33 0), some (vI a), some (vI v)] [] (bc_row M 40 0 (cpF g (M 34 0) (206 * a) v)) post := by
  intro n
  induction n with
  | zero =>
    intro v h1 h2 k
    refine wp_iload_n eX9_putAside_2 rfl ?_
    refine wp_sipush eX9_putAside_3 ?_
    refine wp_icmp_ge eX9_putAside_6 (fun c6 => ?_) (fun c6 => ?_)
    · have hv : v = 206 := by omega
      subst hv
      refine wp_return eX9_putAside_33 ?_
      exact k
    · omega
  | succ n ih =>
    intro v h1 h2 k
    refine wp_iload_n eX9_putAside_2 rfl ?_
    refine wp_sipush eX9_putAside_3 ?_
    refine wp_icmp_ge eX9_putAside_6 (fun c6 => ?_) (fun c6 => ?_)
    · omega
    · refine wp_aload_n eX9_putAside_9 rfl ?_
      refine gf_X9_32 eX9_putAside_10 ?_
      refine wp_sipush eX9_putAside_13 ?_
      refine wp_iload_n eX9_putAside_16 rfl ?_
      refine wp_imul eX9_putAside_17 ?_
      refine wp_iload_n eX9_putAside_18 rfl ?_
      refine wp_iadd eX9_putAside_19 ?_
      refine wp_aload_n eX9_putAside_20 rfl ?_
      refine gf_X9_7 eX9_putAside_21 ?_
      refine wp_iload_n eX9_putAside_24 rfl ?_
      refine al_34 eX9_putAside_25 ?_
      rw [row_kne (by decide)]
      refine as_40 eX9_putAside_26 ?_
      rw [up_row]
      refine inc_2 eX9_putAside_27 ?_
      refine wp_goto eX9_putAside_30 ?_
      rw [cpF_st h2]
      exact ih (v + 1) (by omega) (by omega) k
theorem ct_putAside {G : bc_G} {M : bc_M} {post : bc_R → bc_M → Prop} {a : Int} (ha : 0 ≤ a ∧ a < 7) (k : post (.inr none) (bc_row M 40 0 (cpF (M 40 0) (M 34 0) (206 * a) 206))) : bc_Call G yX9_putAside cX9_putAside 3 none 1 0 [vR G 33 0, vI a] M post := by
  refine bc_enter (L := [some (vR G 33 0), some (vI a), none]) (by decide) rfl rfl ?_
  refine wp_iconst eX9_putAside_0 ?_
  refine ist_2 eX9_putAside_1 ?_
  have eM : M = bc_row M 40 0 (cpF (M 40 0) (M 34 0) (206 * a) 0) := by rw [cpF0, row_self]
  rw [eM]
  exact lp_aside ha 206 0 (by omega) (by omega) k
theorem lp_back {G : bc_G} {M : bc_M} {post : bc_R → bc_M → Prop} {a : Int} {g : Int → Int} (ha : 0 ≤ a ∧ a < 7) : ∀ (n : Nat) (v : Int) (h1 : v + n = 206) (h2 : 0 ≤ v) (k : post (.inr none) (bc_row M 34 0 (cpF g (fun q => M 40 0 (206 * a + q)) 0 206))), bc_W G RX9 cX9_takeBack 3 none 1 0 0 2 [some (vR G 33 0), some (vI a), some (vI v)] [] (bc_row M 34 0 (cpF g (fun q => M 40 0 (206 * a + q)) 0 v)) post := by
  intro n
  induction n with
  | zero =>
    intro v h1 h2 k
    refine wp_iload_n eX9_takeBack_2 rfl ?_
    refine wp_sipush eX9_takeBack_3 ?_
    refine wp_icmp_ge eX9_takeBack_6 (fun c6 => ?_) (fun c6 => ?_)
    · have hv : v = 206 := by omega
      subst hv
      refine wp_return eX9_takeBack_33 ?_
      exact k
    · omega
  | succ n ih =>
    intro v h1 h2 k
    refine wp_iload_n eX9_takeBack_2 rfl ?_
    refine wp_sipush eX9_takeBack_3 ?_
    refine wp_icmp_ge eX9_takeBack_6 (fun c6 => ?_) (fun c6 => ?_)
    · omega
    · refine wp_aload_n eX9_takeBack_9 rfl ?_
      refine gf_X9_7 eX9_takeBack_10 ?_
      refine wp_iload_n eX9_takeBack_13 rfl ?_
      refine wp_aload_n eX9_takeBack_14 rfl ?_
      refine gf_X9_32 eX9_takeBack_15 ?_
      refine wp_sipush eX9_takeBack_18 ?_
      refine wp_iload_n eX9_takeBack_21 rfl ?_
      refine wp_imul eX9_takeBack_22 ?_
      refine wp_iload_n eX9_takeBack_23 rfl ?_
      refine wp_iadd eX9_takeBack_24 ?_
      refine al_40 eX9_takeBack_25 ?_
      rw [row_kne (by decide)]
      refine as_34 eX9_takeBack_26 ?_
      rw [up_row]
      refine inc_2 eX9_takeBack_27 ?_
      refine wp_goto eX9_takeBack_30 ?_
      have e2 := cpF_st (g := g) (h := fun q => M 40 0 (206 * a + q)) (b := 0) (n := v) h2
      rw [show 0 + v = v by omega] at e2
      rw [e2]
      exact ih (v + 1) (by omega) (by omega) k
theorem ct_takeBack {G : bc_G} {M : bc_M} {post : bc_R → bc_M → Prop} {a : Int} (ha : 0 ≤ a ∧ a < 7) (k : post (.inr none) (bc_row M 34 0 (cpF (M 34 0) (fun q => M 40 0 (206 * a + q)) 0 206))) : bc_Call G yX9_takeBack cX9_takeBack 3 none 1 0 [vR G 33 0, vI a] M post := by
  refine bc_enter (L := [some (vR G 33 0), some (vI a), none]) (by decide) rfl rfl ?_
  refine wp_iconst eX9_takeBack_0 ?_
  refine ist_2 eX9_takeBack_1 ?_
  have eM : M = bc_row M 34 0 (cpF (M 34 0) (fun q => M 40 0 (206 * a + q)) 0 0) := by rw [cpF0, row_self]
  rw [eM]
  exact lp_back ha 206 0 (by omega) (by omega) k
def gd : Nat → Int → Int → Int
  | 0, a, _ => a
  | n + 1, a, b => if b = 0 then a else gd n b (a % b)
theorem ct_common1 {G : bc_G} {M : bc_M} {post : bc_R → bc_M → Prop} {a b : Int} (ha : 0 ≤ a ∧ a ≤ 1000) (hb : 0 ≤ b ∧ b < 1) (k : post (.inr (some (vI (gd 1 a b)))) M) : bc_Call G yX9_common cX9_common 2 (some .int) 1 0 [vI a, vI b] M post := by
  refine bc_enter (L := [some (vI a), some (vI b)]) (by decide) rfl rfl ?_
  refine wp_iload_n eX9_common_0 rfl ?_
  refine wp_if_ne eX9_common_1 (fun c1 => ?_) (fun c1 => ?_)
  · omega
  · rw [show gd 1 a b = a by simp only [gd]; rw [if_pos (by omega)]] at k
    refine wp_iload_n eX9_common_4 rfl ?_
    refine wp_goto eX9_common_5 ?_
    refine wp_ireturn eX9_common_15 ?_
    exact k
theorem ct_common2 {G : bc_G} {M : bc_M} {post : bc_R → bc_M → Prop} {a b : Int} (ha : 0 ≤ a ∧ a ≤ 1000) (hb : 0 ≤ b ∧ b < 2) (k : post (.inr (some (vI (gd 2 a b)))) M) : bc_Call G yX9_common cX9_common 2 (some .int) 2 0 [vI a, vI b] M post := by
  refine bc_enter (L := [some (vI a), some (vI b)]) (by decide) rfl rfl ?_
  refine wp_iload_n eX9_common_0 rfl ?_
  refine wp_if_ne eX9_common_1 (fun c1 => ?_) (fun c1 => ?_)
  · refine wp_iload_n eX9_common_8 rfl ?_
    refine wp_iload_n eX9_common_9 rfl ?_
    refine wp_iload_n eX9_common_10 rfl ?_
    refine wp_irem eX9_common_11 ?_
    have hm := Int.emod_lt_of_pos a (show 0 < b by omega)
    have hm2 := Int.emod_nonneg a (show b ≠ 0 by omega)
    refine c_X9_205 eX9_common_12 (ct_common1 (by omega) (by omega) ?_)
    rw [show gd 2 a b = gd 1 b (a % b) by simp only [gd]; rw [if_neg (by omega)]] at k
    refine wp_ireturn eX9_common_15 ?_
    exact k
  · rw [show gd 2 a b = a by simp only [gd]; rw [if_pos (by omega)]] at k
    refine wp_iload_n eX9_common_4 rfl ?_
    refine wp_goto eX9_common_5 ?_
    refine wp_ireturn eX9_common_15 ?_
    exact k
theorem ct_common3 {G : bc_G} {M : bc_M} {post : bc_R → bc_M → Prop} {a b : Int} (ha : 0 ≤ a ∧ a ≤ 1000) (hb : 0 ≤ b ∧ b < 3) (k : post (.inr (some (vI (gd 3 a b)))) M) : bc_Call G yX9_common cX9_common 2 (some .int) 3 0 [vI a, vI b] M post := by
  refine bc_enter (L := [some (vI a), some (vI b)]) (by decide) rfl rfl ?_
  refine wp_iload_n eX9_common_0 rfl ?_
  refine wp_if_ne eX9_common_1 (fun c1 => ?_) (fun c1 => ?_)
  · refine wp_iload_n eX9_common_8 rfl ?_
    refine wp_iload_n eX9_common_9 rfl ?_
    refine wp_iload_n eX9_common_10 rfl ?_
    refine wp_irem eX9_common_11 ?_
    have hm := Int.emod_lt_of_pos a (show 0 < b by omega)
    have hm2 := Int.emod_nonneg a (show b ≠ 0 by omega)
    refine c_X9_205 eX9_common_12 (ct_common2 (by omega) (by omega) ?_)
    rw [show gd 3 a b = gd 2 b (a % b) by simp only [gd]; rw [if_neg (by omega)]] at k
    refine wp_ireturn eX9_common_15 ?_
    exact k
  · rw [show gd 3 a b = a by simp only [gd]; rw [if_pos (by omega)]] at k
    refine wp_iload_n eX9_common_4 rfl ?_
    refine wp_goto eX9_common_5 ?_
    refine wp_ireturn eX9_common_15 ?_
    exact k
theorem ct_common4 {G : bc_G} {M : bc_M} {post : bc_R → bc_M → Prop} {a b : Int} (ha : 0 ≤ a ∧ a ≤ 1000) (hb : 0 ≤ b ∧ b < 4) (k : post (.inr (some (vI (gd 4 a b)))) M) : bc_Call G yX9_common cX9_common 2 (some .int) 4 0 [vI a, vI b] M post := by
  refine bc_enter (L := [some (vI a), some (vI b)]) (by decide) rfl rfl ?_
  refine wp_iload_n eX9_common_0 rfl ?_
  refine wp_if_ne eX9_common_1 (fun c1 => ?_) (fun c1 => ?_)
  · refine wp_iload_n eX9_common_8 rfl ?_
    refine wp_iload_n eX9_common_9 rfl ?_
    refine wp_iload_n eX9_common_10 rfl ?_
    refine wp_irem eX9_common_11 ?_
    have hm := Int.emod_lt_of_pos a (show 0 < b by omega)
    have hm2 := Int.emod_nonneg a (show b ≠ 0 by omega)
    refine c_X9_205 eX9_common_12 (ct_common3 (by omega) (by omega) ?_)
    rw [show gd 4 a b = gd 3 b (a % b) by simp only [gd]; rw [if_neg (by omega)]] at k
    refine wp_ireturn eX9_common_15 ?_
    exact k
  · rw [show gd 4 a b = a by simp only [gd]; rw [if_pos (by omega)]] at k
    refine wp_iload_n eX9_common_4 rfl ?_
    refine wp_goto eX9_common_5 ?_
    refine wp_ireturn eX9_common_15 ?_
    exact k
theorem ct_common5 {G : bc_G} {M : bc_M} {post : bc_R → bc_M → Prop} {a b : Int} (ha : 0 ≤ a ∧ a ≤ 1000) (hb : 0 ≤ b ∧ b < 5) (k : post (.inr (some (vI (gd 5 a b)))) M) : bc_Call G yX9_common cX9_common 2 (some .int) 5 0 [vI a, vI b] M post := by
  refine bc_enter (L := [some (vI a), some (vI b)]) (by decide) rfl rfl ?_
  refine wp_iload_n eX9_common_0 rfl ?_
  refine wp_if_ne eX9_common_1 (fun c1 => ?_) (fun c1 => ?_)
  · refine wp_iload_n eX9_common_8 rfl ?_
    refine wp_iload_n eX9_common_9 rfl ?_
    refine wp_iload_n eX9_common_10 rfl ?_
    refine wp_irem eX9_common_11 ?_
    have hm := Int.emod_lt_of_pos a (show 0 < b by omega)
    have hm2 := Int.emod_nonneg a (show b ≠ 0 by omega)
    refine c_X9_205 eX9_common_12 (ct_common4 (by omega) (by omega) ?_)
    rw [show gd 5 a b = gd 4 b (a % b) by simp only [gd]; rw [if_neg (by omega)]] at k
    refine wp_ireturn eX9_common_15 ?_
    exact k
  · rw [show gd 5 a b = a by simp only [gd]; rw [if_pos (by omega)]] at k
    refine wp_iload_n eX9_common_4 rfl ?_
    refine wp_goto eX9_common_5 ?_
    refine wp_ireturn eX9_common_15 ?_
    exact k
theorem ct_common6 {G : bc_G} {M : bc_M} {post : bc_R → bc_M → Prop} {a b : Int} (ha : 0 ≤ a ∧ a ≤ 1000) (hb : 0 ≤ b ∧ b < 6) (k : post (.inr (some (vI (gd 6 a b)))) M) : bc_Call G yX9_common cX9_common 2 (some .int) 6 0 [vI a, vI b] M post := by
  refine bc_enter (L := [some (vI a), some (vI b)]) (by decide) rfl rfl ?_
  refine wp_iload_n eX9_common_0 rfl ?_
  refine wp_if_ne eX9_common_1 (fun c1 => ?_) (fun c1 => ?_)
  · refine wp_iload_n eX9_common_8 rfl ?_
    refine wp_iload_n eX9_common_9 rfl ?_
    refine wp_iload_n eX9_common_10 rfl ?_
    refine wp_irem eX9_common_11 ?_
    have hm := Int.emod_lt_of_pos a (show 0 < b by omega)
    have hm2 := Int.emod_nonneg a (show b ≠ 0 by omega)
    refine c_X9_205 eX9_common_12 (ct_common5 (by omega) (by omega) ?_)
    rw [show gd 6 a b = gd 5 b (a % b) by simp only [gd]; rw [if_neg (by omega)]] at k
    refine wp_ireturn eX9_common_15 ?_
    exact k
  · rw [show gd 6 a b = a by simp only [gd]; rw [if_pos (by omega)]] at k
    refine wp_iload_n eX9_common_4 rfl ?_
    refine wp_goto eX9_common_5 ?_
    refine wp_ireturn eX9_common_15 ?_
    exact k
theorem ct_common7 {G : bc_G} {M : bc_M} {post : bc_R → bc_M → Prop} {a b : Int} (ha : 0 ≤ a ∧ a ≤ 1000) (hb : 0 ≤ b ∧ b < 7) (k : post (.inr (some (vI (gd 7 a b)))) M) : bc_Call G yX9_common cX9_common 2 (some .int) 7 0 [vI a, vI b] M post := by
  refine bc_enter (L := [some (vI a), some (vI b)]) (by decide) rfl rfl ?_
  refine wp_iload_n eX9_common_0 rfl ?_
  refine wp_if_ne eX9_common_1 (fun c1 => ?_) (fun c1 => ?_)
  · refine wp_iload_n eX9_common_8 rfl ?_
    refine wp_iload_n eX9_common_9 rfl ?_
    refine wp_iload_n eX9_common_10 rfl ?_
    refine wp_irem eX9_common_11 ?_
    have hm := Int.emod_lt_of_pos a (show 0 < b by omega)
    have hm2 := Int.emod_nonneg a (show b ≠ 0 by omega)
    refine c_X9_205 eX9_common_12 (ct_common6 (by omega) (by omega) ?_)
    rw [show gd 7 a b = gd 6 b (a % b) by simp only [gd]; rw [if_neg (by omega)]] at k
    refine wp_ireturn eX9_common_15 ?_
    exact k
  · rw [show gd 7 a b = a by simp only [gd]; rw [if_pos (by omega)]] at k
    refine wp_iload_n eX9_common_4 rfl ?_
    refine wp_goto eX9_common_5 ?_
    refine wp_ireturn eX9_common_15 ?_
    exact k
theorem bx_or0 {s : Int} (h : 0 ≤ s ∧ s < 65536) : bx_or s 0 = s := by
  have := bs_or (a := s.toNat) (b := 0) (by omega) (by omega)
  rw [show ((s.toNat : Nat) : Int) = s by omega] at this
  rw [show (0 : Int) = ((0 : Nat) : Int) from rfl, this, Nat.or_zero]
  omega
theorem fc_of_bs {g : Int → Int} {x : Int} : ∀ (n : Nat) (i s k : Int), 0 ≤ i → 0 ≤ k → bs (fc_of g x n i s) k = (bs s k || decide (i ≤ k ∧ k < i + n ∧ g k = x))
  | 0, i, s, k, _, _ => by
    simp only [fc_of]
    rw [decide_eq_false (by omega), Bool.or_false]
  | n + 1, i, s, k, h1, h2 => by
    simp only [fc_of]
    rw [fc_of_bs n (i + 1) _ k (by omega) h2]
    by_cases hk : k = i
    · subst hk
      rw [decide_eq_false (show ¬ (k + 1 ≤ k ∧ k < k + 1 + (n : Int) ∧ g k = x) by omega), Bool.or_false]
      by_cases hg : g k = x
      · rw [if_pos hg, bs_add_in h1 h2, decide_eq_true (show k ≤ k ∧ k < k + ((n + 1 : Nat) : Int) ∧ g k = x from ⟨by omega, by omega, hg⟩)]
        simp
      · rw [if_neg hg, decide_eq_false (show ¬ (k ≤ k ∧ k < k + ((n + 1 : Nat) : Int) ∧ g k = x) from fun q => hg q.2.2), Bool.or_false]
    · have e1 : bs (if g i = x then bs_add s i else s) k = bs s k := by
        split
        · rw [bs_add_in h1 h2, decide_eq_false hk, Bool.or_false]
        · rfl
      rw [e1]
      congr 1
      exact decide_eq_decide.mpr ⟨fun q => ⟨by omega, by omega, q.2.2⟩, fun q => ⟨by omega, by omega, q.2.2⟩⟩
theorem fc_of_rng {g : Int → Int} {x : Int} : ∀ (n : Nat) (i s : Int), 0 ≤ i → i + n ≤ 16 → (0 ≤ s ∧ s < 65536) → 0 ≤ fc_of g x n i s ∧ fc_of g x n i s < 65536
  | 0, _, _, _, _, h => h
  | n + 1, i, s, h1, h2, h => by
    simp only [fc_of]
    have hr := bs_add_rng (s := s) (i := i) (n := 16) (by omega) (by omega)
    exact fc_of_rng n (i + 1) _ (by omega) (by omega) (by split <;> omega)
/-- the set of a disk's items -/
def sp_of (dk : Int → Int) (ni d : Int) : Int := fc_of dk d ni.toNat 0 0
theorem sp_of_bs {dk : Int → Int} {ni d k : Int} (hk : 0 ≤ k) : bs (sp_of dk ni d) k = decide (k < ni ∧ dk k = d) := by
  unfold sp_of
  rw [fc_of_bs _ _ _ _ (by omega) hk, bs_zero, Bool.false_or]
  exact decide_eq_decide.mpr ⟨fun q => ⟨by omega, q.2.2⟩, fun q => ⟨by omega, by omega, q.2⟩⟩
theorem sp_of_rng {dk : Int → Int} {ni d : Int} (h : 0 ≤ ni ∧ ni ≤ 16) : 0 ≤ sp_of dk ni d ∧ sp_of dk ni d < 65536 := fc_of_rng _ _ _ (by omega) (by omega) (by omega)
theorem sp_of_cnt {dk : Int → Int} {ni d : Int} (h : 0 ≤ ni ∧ ni ≤ 16) : bs_cnt (sp_of dk ni d) 16 = sp_m dk ni d := by
  have key : ∀ n : Nat, (n : Int) ≤ ni → bs_cnt (sp_of dk ni d) n = sp_cd dk d n := by
    intro n
    induction n with
    | zero => intro _; rfl
    | succ n ih =>
      intro hn
      simp only [bs_cnt, sp_cd]
      rw [ih (by omega), sp_of_bs (by omega)]
      by_cases hd : dk n = d
      · rw [if_pos hd, decide_eq_true (show (n : Int) < ni ∧ dk n = d from ⟨by omega, hd⟩), if_pos rfl]
      · rw [if_neg hd, decide_eq_false (show ¬ ((n : Int) < ni ∧ dk n = d) from fun q => hd q.2), if_neg (by decide)]
  have key2 : ∀ m : Nat, bs_cnt (sp_of dk ni d) (ni.toNat + m) = sp_m dk ni d := by
    intro m
    induction m with
    | zero => exact key ni.toNat (by omega)
    | succ m ih =>
      rw [show ni.toNat + (m + 1) = (ni.toNat + m) + 1 by omega]
      simp only [bs_cnt]
      rw [ih, sp_of_bs (by omega), decide_eq_false (show ¬ ((((ni.toNat + m : Nat) : Int) < ni) ∧ dk ((ni.toNat + m : Nat) : Int) = d) by omega), if_neg (by decide)]
      omega
  have := key2 (16 - ni.toNat)
  rw [show ni.toNat + (16 - ni.toNat) = 16 by omega] at this
  exact this
theorem lp_itemsOn {G : bc_G} {M : bc_M} {post : bc_R → bc_M → Prop} {ni : Int} {dk : Int → Int} (hni : 0 ≤ ni ∧ ni ≤ 16) (e6 : M 33 0 6 = ni) (edk : ∀ i, 0 ≤ i → i < 16 → M 34 0 (16 + i) = dk i) (hdk : ∀ i, 0 ≤ i → i < ni → 0 ≤ dk i ∧ dk i ≤ 16) {x : Int} (hx : 0 ≤ x ∧ x ≤ 16) : ∀ (n : Nat) (i s : Int) (h1 : i + n = ni) (h2 : 0 ≤ i) (hs : 0 ≤ s ∧ s < 65536) (k : post (.inr (some (vI (fc_of dk x n i s)))) M), bc_W G RX9 cX9_itemsOn 4 (some .int) 1 0 0 4 [some (vR G 33 0), some (vI x), some (vI s), some (vI i)] [] M post := by
  intro n
  induction n with
  | zero =>
    intro i s h1 h2 hs k
    refine wp_iload_n eX9_itemsOn_4 rfl ?_
    refine wp_aload_n eX9_itemsOn_5 rfl ?_
    refine gf_X9_79 eX9_itemsOn_6 ?_
    rw [e6]
    refine wp_icmp_ge eX9_itemsOn_9 (fun c9 => ?_) (fun c9 => ?_)
    · refine wp_iload_n eX9_itemsOn_41 rfl ?_
      refine wp_ireturn eX9_itemsOn_42 ?_
      exact k
    · omega
  | succ n ih =>
    intro i s h1 h2 hs k
    refine wp_iload_n eX9_itemsOn_4 rfl ?_
    refine wp_aload_n eX9_itemsOn_5 rfl ?_
    refine gf_X9_79 eX9_itemsOn_6 ?_
    rw [e6]
    refine wp_icmp_ge eX9_itemsOn_9 (fun c9 => ?_) (fun c9 => ?_)
    · omega
    · refine wp_iload_n eX9_itemsOn_12 rfl ?_
      refine wp_aload_n eX9_itemsOn_13 rfl ?_
      refine gf_X9_7 eX9_itemsOn_14 ?_
      refine wp_bipush eX9_itemsOn_17 ?_
      refine wp_iload_n eX9_itemsOn_19 rfl ?_
      refine wp_iadd eX9_itemsOn_20 ?_
      refine al_34 eX9_itemsOn_21 ?_
      rw [edk i (by omega) (by omega)]
      have hd1 := hdk i (by omega) (by omega)
      refine wp_iload_n eX9_itemsOn_22 rfl ?_
      refine wp_icmp_ne eX9_itemsOn_23 (fun c23 => ?_) (fun c23 => ?_)
      · simp only [fc_of] at k
        rw [if_neg c23] at k
        refine wp_iconst eX9_itemsOn_32 ?_
        refine wp_ior eX9_itemsOn_33 ?_
        refine ist_2 eX9_itemsOn_34 ?_
        refine inc_3 eX9_itemsOn_35 ?_
        refine wp_goto eX9_itemsOn_38 ?_
        first
        | (rw [bx_or0 hs]; exact ih (i + 1) _ (by omega) (by omega) (by omega) k)
        | (rw [bs_or_shl ⟨by omega, by omega⟩ ⟨by omega, by omega⟩]; exact ih (i + 1) _ (by omega) (by omega) (by omega) k)
      · simp only [fc_of] at k
        rw [if_pos (by omega)] at k
        have hsr := bs_add_rng (s := s) (i := i) (n := 16) (by omega) (by omega)
        refine wp_iconst eX9_itemsOn_26 ?_
        refine wp_iload_n eX9_itemsOn_27 rfl ?_
        refine wp_ishl eX9_itemsOn_28 ?_
        refine wp_goto eX9_itemsOn_29 ?_
        refine wp_ior eX9_itemsOn_33 ?_
        refine ist_2 eX9_itemsOn_34 ?_
        refine inc_3 eX9_itemsOn_35 ?_
        refine wp_goto eX9_itemsOn_38 ?_
        first
        | (rw [bx_or0 hs]; exact ih (i + 1) _ (by omega) (by omega) (by omega) k)
        | (rw [bs_or_shl ⟨by omega, by omega⟩ ⟨by omega, by omega⟩]; exact ih (i + 1) _ (by omega) (by omega) (by omega) k)
theorem ct_itemsOn {G : bc_G} {M : bc_M} {post : bc_R → bc_M → Prop} {ni : Int} {dk : Int → Int} (hni : 0 ≤ ni ∧ ni ≤ 16) (e6 : M 33 0 6 = ni) (edk : ∀ i, 0 ≤ i → i < 16 → M 34 0 (16 + i) = dk i) (hdk : ∀ i, 0 ≤ i → i < ni → 0 ≤ dk i ∧ dk i ≤ 16) {x : Int} (hx : 0 ≤ x ∧ x ≤ 16) (k : post (.inr (some (vI (sp_of dk ni x)))) M) : bc_Call G yX9_itemsOn cX9_itemsOn 4 (some .int) 1 0 [vR G 33 0, vI x] M post := by
  refine bc_enter (L := [some (vR G 33 0), some (vI x), none, none]) (by decide) rfl rfl ?_
  refine wp_iconst eX9_itemsOn_0 ?_
  refine ist_2 eX9_itemsOn_1 ?_
  refine wp_iconst eX9_itemsOn_2 ?_
  refine ist_3 eX9_itemsOn_3 ?_
  exact lp_itemsOn hni e6 edk hdk hx ni.toNat 0 0 (by omega) (by omega) (by omega) k
theorem gd_cm_ : ∀ r : Fin 61, ∀ f : Fin 7, 0 < r.val → 60 % r.val = 0 → 0 < f.val → (0 < gd 7 r.val f.val ∧ gd 7 r.val f.val ≤ 60) ∧ (r.val : Int) / gd 7 r.val f.val * f.val = sp_cm r.val f.val (f.val - 1) 1 := by decide +kernel
theorem gd_cm {r f : Int} (hr : sp_d60 r) (hf : 1 ≤ f ∧ f ≤ 6) : (0 < gd 7 r f ∧ gd 7 r f ≤ 60) ∧ r / gd 7 r f * f = sp_cm r f (f - 1).toNat 1 := by
  obtain ⟨h1, h2, h3⟩ := hr
  have := gd_cm_ ⟨r.toNat, by omega⟩ ⟨f.toNat, by omega⟩ (by simp only; omega) (by simp only; omega) (by simp only; omega)
  simp only at this
  rw [show ((r.toNat : Nat) : Int) = r by omega, show ((f.toNat : Nat) : Int) = f by omega, show f.toNat - 1 = (f - 1).toNat by omega] at this
  exact this
theorem bs_cnt_pos {s : Int} (h1 : 0 < s) (h2 : s < 65536) : 0 < bs_cnt s 16 := by
  have hr := bs_cnt_rng s 16
  by_cases h : bs_cnt s 16 = 0
  · exfalso
    have key : ∀ n : Nat, bs_cnt s n = 0 → ∀ k : Nat, k < n → bs s k = false := by
      intro n
      induction n with
      | zero => intro _ k hk; omega
      | succ n ih =>
        intro h k hk
        simp only [bs_cnt] at h
        have hr := bs_cnt_rng s n
        by_cases hb : bs s n = true
        · rw [if_pos hb] at h; omega
        · by_cases hkn : k = n
          · subst hkn; simpa using hb
          · rw [if_neg hb] at h; exact ih (by omega) k (by omega)
    have : s = 0 := bs_ext (n := 16) (by omega) (by omega) (fun k a b => by
      have := key 16 h k.toNat (by omega)
      rw [show ((k.toNat : Nat) : Int) = k by omega] at this
      rw [this, bs_zero])
    omega
  · omega
theorem lp_rounds {G : bc_G} {M : bc_M} {post : bc_R → bc_M → Prop} {ni : Int} {dk : Int → Int} (hni : 0 ≤ ni ∧ ni ≤ 16) (e6 : M 33 0 6 = ni) (edk : ∀ i, 0 ≤ i → i < 16 → M 34 0 (16 + i) = dk i) (hdk : ∀ i, 0 ≤ i → i < ni → 0 ≤ dk i ∧ dk i ≤ 16) {nd : Int} {fr : Int → Int} (hnd : 1 ≤ nd ∧ nd ≤ 4) (e5 : M 33 0 5 = nd) (efr : ∀ d, 0 ≤ d → d < 4 → M 34 0 (48 + d) = fr d) (hfr : ∀ d, 0 ≤ d → d < nd → 1 ≤ fr d ∧ fr d ≤ 6) : ∀ (n : Nat) (x r : Int) (y : Option Value) (h1 : x + n = nd) (h2 : 0 ≤ x) (hr : sp_d60 r) (k : post (.inr (some (vI (sp_rd (sp_m dk ni) fr n x r)))) M), bc_W G RX9 cX9_rounds 4 (some .int) 8 0 0 4 [some (vR G 33 0), some (vI r), some (vI x), y] [] M post := by
  intro n
  induction n with
  | zero =>
    intro x r y h1 h2 hr k
    refine wp_iload_n eX9_rounds_4 rfl ?_
    refine wp_aload_n eX9_rounds_5 rfl ?_
    refine gf_X9_72 eX9_rounds_6 ?_
    rw [e5]
    refine wp_icmp_ge eX9_rounds_9 (fun c9 => ?_) (fun c9 => ?_)
    · refine wp_iload_n eX9_rounds_50 rfl ?_
      refine wp_ireturn eX9_rounds_51 ?_
      exact k
    · omega
  | succ n ih =>
    intro x r y h1 h2 hr k
    refine wp_iload_n eX9_rounds_4 rfl ?_
    refine wp_aload_n eX9_rounds_5 rfl ?_
    refine gf_X9_72 eX9_rounds_6 ?_
    rw [e5]
    refine wp_icmp_ge eX9_rounds_9 (fun c9 => ?_) (fun c9 => ?_)
    · omega
    · refine wp_aload_n eX9_rounds_12 rfl ?_
      refine gf_X9_7 eX9_rounds_13 ?_
      refine wp_bipush eX9_rounds_16 ?_
      refine wp_iload_n eX9_rounds_18 rfl ?_
      refine wp_iadd eX9_rounds_19 ?_
      refine al_34 eX9_rounds_20 ?_
      rw [efr x (by omega) (by omega)]
      have hf1 := hfr x (by omega) (by omega)
      have hcm := gd_cm hr hf1
      have hc6 := (sp_cm60 hr hf1).1
      have hr1 := hr.1
      have hr2 := hr.2.1
      refine ist_3 eX9_rounds_21 ?_
      refine wp_aload_n eX9_rounds_22 rfl ?_
      refine wp_iload_n eX9_rounds_23 rfl ?_
      refine c_X9_208 eX9_rounds_24 (ct_itemsOn hni e6 edk hdk (x := x) (by omega) ?_)
      have hor := sp_of_rng (dk := dk) (d := x) hni
      have hcnt := sp_of_cnt (dk := dk) (d := x) hni
      refine wp_if_ne eX9_rounds_27 (fun c27 => ?_) (fun c27 => ?_)
      · have hz : 0 < sp_m dk ni x := by
          rw [← hcnt]
          exact bs_cnt_pos (by omega) (by omega)
        simp only [sp_rd] at k
        rw [if_pos hz, ← hcm.2] at k
        rw [← hcm.2] at hc6
        refine wp_iload_n eX9_rounds_34 rfl ?_
        refine wp_iload_n eX9_rounds_35 rfl ?_
        refine wp_iload_n eX9_rounds_36 rfl ?_
        refine c_X9_205 eX9_rounds_37 (ct_common7 (by omega) (by omega) ?_)
        refine wp_idiv eX9_rounds_40 ?_
        refine wp_iload_n eX9_rounds_41 rfl ?_
        refine wp_imul eX9_rounds_42 ?_
        refine ist_1 eX9_rounds_43 ?_
        refine inc_2 eX9_rounds_44 ?_
        refine wp_goto eX9_rounds_47 ?_
        first
        | exact ih (x + 1) _ _ (by omega) (by omega) hc6 k
        | exact ih (x + 1) _ _ (by omega) (by omega) hr k
      · have hz : ¬ 0 < sp_m dk ni x := by
          rw [← hcnt]
          rw [show sp_of dk ni x = 0 by omega]
          decide
        simp only [sp_rd] at k
        rw [if_neg hz] at k
        refine wp_iload_n eX9_rounds_30 rfl ?_
        refine wp_goto eX9_rounds_31 ?_
        refine ist_1 eX9_rounds_43 ?_
        refine inc_2 eX9_rounds_44 ?_
        refine wp_goto eX9_rounds_47 ?_
        first
        | exact ih (x + 1) _ _ (by omega) (by omega) hc6 k
        | exact ih (x + 1) _ _ (by omega) (by omega) hr k
theorem ct_rounds {G : bc_G} {M : bc_M} {post : bc_R → bc_M → Prop} {ni : Int} {dk : Int → Int} (hni : 0 ≤ ni ∧ ni ≤ 16) (e6 : M 33 0 6 = ni) (edk : ∀ i, 0 ≤ i → i < 16 → M 34 0 (16 + i) = dk i) (hdk : ∀ i, 0 ≤ i → i < ni → 0 ≤ dk i ∧ dk i ≤ 16) {nd : Int} {fr : Int → Int} (hnd : 1 ≤ nd ∧ nd ≤ 4) (e5 : M 33 0 5 = nd) (efr : ∀ d, 0 ≤ d → d < 4 → M 34 0 (48 + d) = fr d) (hfr : ∀ d, 0 ≤ d → d < nd → 1 ≤ fr d ∧ fr d ≤ 6) (k : post (.inr (some (vI (sp_N dk fr nd ni)))) M) : bc_Call G yX9_rounds cX9_rounds 4 (some .int) 8 0 [vR G 33 0] M post := by
  refine bc_enter (L := [some (vR G 33 0), none, none, none]) (by decide) rfl rfl ?_
  refine wp_iconst eX9_rounds_0 ?_
  refine ist_1 eX9_rounds_1 ?_
  refine wp_iconst eX9_rounds_2 ?_
  refine ist_2 eX9_rounds_3 ?_
  exact lp_rounds hni e6 edk hdk hnd e5 efr hfr nd.toNat 0 1 none (by omega) (by omega) ⟨by decide, by decide, by decide⟩ k
def it_at (s : Int) : Nat → Int → Int → Int
  | 0, _, _ => -2
  | n + 1, i, p => if bs s i then (if p = 0 then i else it_at s n (i + 1) (p - 1)) else it_at s n (i + 1) p
theorem lp_itemAt {G : bc_G} {M : bc_M} {post : bc_R → bc_M → Prop} {ni s : Int} (hni : 0 ≤ ni ∧ ni ≤ 16) (e6 : M 33 0 6 = ni) (hs : 0 ≤ s ∧ s < 65536) {x : Int} : ∀ (n : Nat) (i p : Int) (h1 : i + n = ni) (h2 : 0 ≤ i) (hp : -100 ≤ p - n ∧ p ≤ 1000) (k : post (.inr (some (vI (it_at s n i p)))) M), bc_W G RX9 cX9_itemAt 5 (some .int) 2 0 0 5 [some (vR G 33 0), some (vI s), some (vI x), some (vI p), some (vI i)] [] M post := by
  intro n
  induction n with
  | zero =>
    intro i p h1 h2 hp k
    refine wp_iload eX9_itemAt_5 rfl ?_
    refine wp_aload_n eX9_itemAt_7 rfl ?_
    refine gf_X9_79 eX9_itemAt_8 ?_
    rw [e6]
    refine wp_icmp_ge eX9_itemAt_11 (fun c11 => ?_) (fun c11 => ?_)
    · refine wp_bipush eX9_itemAt_39 ?_
      refine wp_ireturn eX9_itemAt_41 ?_
      exact k
    · omega
  | succ n ih =>
    intro i p h1 h2 hp k
    refine wp_iload eX9_itemAt_5 rfl ?_
    refine wp_aload_n eX9_itemAt_7 rfl ?_
    refine gf_X9_79 eX9_itemAt_8 ?_
    rw [e6]
    refine wp_icmp_ge eX9_itemAt_11 (fun c11 => ?_) (fun c11 => ?_)
    · omega
    · refine wp_iload_n eX9_itemAt_14 rfl ?_
      refine wp_iload eX9_itemAt_15 rfl ?_
      refine c_X9_211 eX9_itemAt_17 (ct_has ?_)
      refine wp_if_eq eX9_itemAt_20 (fun c20 => ?_) (fun c20 => ?_) (by split <;> omega)
      · have hb : ¬ bs s i = true := by
          intro h
          rw [h] at c20
          exact absurd c20 (by decide)
        simp only [it_at] at k
        rw [if_neg hb] at k
        refine inc_4 eX9_itemAt_33 ?_
        refine wp_goto eX9_itemAt_36 ?_
        exact ih (i + 1) _ (by omega) (by omega) (by omega) k
      · have hb : bs s i = true := by
          cases h : bs s i
          · rw [h] at c20; exact absurd rfl c20
          · rfl
        simp only [it_at] at k
        rw [if_pos hb] at k
        refine wp_iload_n eX9_itemAt_23 rfl ?_
        refine wp_if_ne eX9_itemAt_24 (fun c24 => ?_) (fun c24 => ?_)
        · rw [if_neg c24] at k
          refine inc_3 eX9_itemAt_30 ?_
          rw [show p + -1 = p - 1 by omega]
          refine inc_4 eX9_itemAt_33 ?_
          refine wp_goto eX9_itemAt_36 ?_
          exact ih (i + 1) (p - 1) (by omega) (by omega) (by omega) k
        · rw [if_pos (by omega)] at k
          refine wp_iload eX9_itemAt_27 rfl ?_
          refine wp_ireturn eX9_itemAt_29 ?_
          exact k
theorem ct_itemAt {G : bc_G} {M : bc_M} {post : bc_R → bc_M → Prop} {ni s : Int} (hni : 0 ≤ ni ∧ ni ≤ 16) (e6 : M 33 0 6 = ni) (hs : 0 ≤ s ∧ s < 65536) {x : Int} (hx : 0 ≤ x ∧ x ≤ 1000) (k : post (.inr (some (vI (it_at s ni.toNat 0 x)))) M) : bc_Call G yX9_itemAt cX9_itemAt 5 (some .int) 2 0 [vR G 33 0, vI s, vI x] M post := by
  refine bc_enter (L := [some (vR G 33 0), some (vI s), some (vI x), none, none]) (by decide) rfl rfl ?_
  refine wp_iload_n eX9_itemAt_0 rfl ?_
  refine ist_3 eX9_itemAt_1 ?_
  refine wp_iconst eX9_itemAt_2 ?_
  refine ist_4 eX9_itemAt_3 ?_
  exact lp_itemAt hni e6 hs ni.toNat 0 x (by omega) (by omega) (by omega) k
