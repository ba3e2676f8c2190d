theorem bx_lt {a b : Int} : bx_cmp a b < 0 ↔ a < b := by
  unfold bx_cmp
  split
  · exact ⟨fun _ => by omega, fun _ => by omega⟩
  · split
    · exact ⟨fun _ => by omega, fun _ => by omega⟩
    · exact ⟨fun _ => by omega, fun _ => by omega⟩
theorem bx_gt {a b : Int} : 0 < bx_cmp a b ↔ b < a := by
  unfold bx_cmp
  split
  · exact ⟨fun _ => by omega, fun _ => by omega⟩
  · split
    · exact ⟨fun _ => by omega, fun _ => by omega⟩
    · exact ⟨fun _ => by omega, fun _ => by omega⟩
theorem bx_cr {a b : Int} : -2147483648 ≤ bx_cmp a b ∧ bx_cmp a b < 2147483648 := by
  unfold bx_cmp
  split
  · omega
  · split <;> omega
/-- g, with n places from b on written from h -/
def cpF (g h : Int → Int) (b n : Int) : Int → Int := fun q => if b ≤ q ∧ q < b + n then h (q - b) else g q
theorem cpF0 {g h : Int → Int} {b : Int} : cpF g h b 0 = g := by
  funext q
  unfold cpF
  rw [if_neg (by omega)]
theorem cpF_st {g h : Int → Int} {b n : Int} (hn : 0 ≤ n) : bc_u (cpF g h b n) (b + n) (h n) = cpF g h b (n + 1) := by
  funext q
  by_cases hq : q = b + n
  · subst hq
    rw [u_at]
    unfold cpF
    rw [if_pos (by omega), show b + n - b = n by omega]
  · rw [u_ne hq]
    unfold cpF
    by_cases h1 : b ≤ q ∧ q < b + n
    · rw [if_pos h1, if_pos (by omega)]
    · rw [if_neg h1, if_neg (by omega)]
theorem ct_mIsIn {G : bc_G} {M : bc_M} {post : bc_R → bc_M → Prop} {a b c : Int} (k : post (.inr (some (vI (if b ≤ a ∧ a ≤ c then 1 else 0)))) M) (h_a : -9223372036854775808 ≤ a ∧ a < 9223372036854775808 := by omega) (h_b : -9223372036854775808 ≤ b ∧ b < 9223372036854775808 := by omega) (h_c : -9223372036854775808 ≤ c ∧ c < 9223372036854775808 := by omega) : bc_Call G yX9_isIn cX9_isIn 6 (some .boolean) 1 0 [vJ a, vJ b, vJ c] M post := by
  refine bc_enter (L := [some (vJ a), none, some (vJ b), none, some (vJ c), none]) (by decide) rfl rfl ?_
  refine wp_lload_n eX9_isIn_0 rfl ?_
  refine wp_lload_n eX9_isIn_1 rfl ?_
  refine wp_lcmp eX9_isIn_2 ?_
  refine wp_if_lt eX9_isIn_3 (fun c3 => ?_) (fun c3 => ?_) bx_cr
  · rw [bx_lt] at c3
    rw [if_neg (by omega)] at k
    refine wp_iconst eX9_isIn_17 ?_
    refine wp_zreturn eX9_isIn_18 (by decide) ?_
    exact k
  · rw [bx_lt] at c3
    refine wp_lload_n eX9_isIn_6 rfl ?_
    refine wp_lload eX9_isIn_7 rfl ?_
    refine wp_lcmp eX9_isIn_9 ?_
    refine wp_if_gt eX9_isIn_10 (fun c10 => ?_) (fun c10 => ?_) bx_cr
    · rw [bx_gt] at c10
      rw [if_neg (by omega)] at k
      refine wp_iconst eX9_isIn_17 ?_
      refine wp_zreturn eX9_isIn_18 (by decide) ?_
      exact k
    · rw [bx_gt] at c10
      rw [if_pos (by omega)] at k
      refine wp_iconst eX9_isIn_13 ?_
      refine wp_goto eX9_isIn_14 ?_
      refine wp_zreturn eX9_isIn_18 (by decide) ?_
      exact k
theorem ct_mThrown {G : bc_G} {M : bc_M} {post : bc_R → bc_M → Prop} (k : post (.inr (some (vI (M 33 0 4)))) M) : bc_Call G yX9_thrown cX9_thrown 1 (some .int) 1 0 [vR G 33 0] M post := by
  refine bc_enter (L := [some (vR G 33 0)]) (by decide) rfl rfl ?_
  refine wp_aload_n eX9_thrown_0 rfl ?_
  refine gf_X9_65 eX9_thrown_1 ?_
  refine wp_ireturn eX9_thrown_4 ?_
  exact k
theorem ct_mIsDisk {G : bc_G} {M : bc_M} {post : bc_R → bc_M → Prop} {v : Int} (k : post (.inr (some (vI (if 0 ≤ v ∧ v ≤ M 33 0 5 - 1 then 1 else 0)))) M) (h_v : -2147483648 ≤ v ∧ v < 2147483648 := by omega) (hf : 0 ≤ M 33 0 5 ∧ M 33 0 5 ≤ 16 := by omega) : bc_Call G yX9_isDisk cX9_isDisk 2 (some .boolean) 2 0 [vR G 33 0, vI v] M post := by
  refine bc_enter (L := [some (vR G 33 0), some (vI v)]) (by decide) rfl rfl ?_
  refine wp_iload_n eX9_isDisk_0 rfl ?_
  refine wp_i2l eX9_isDisk_1 ?_
  refine wp_lconst0 eX9_isDisk_2 ?_
  refine wp_aload_n eX9_isDisk_3 rfl ?_
  refine gf_X9_72 eX9_isDisk_4 ?_
  refine wp_iconst eX9_isDisk_7 ?_
  refine wp_isub eX9_isDisk_8 ?_
  refine wp_i2l eX9_isDisk_9 ?_
  refine c_X9_75 eX9_isDisk_10 (ct_mIsIn ?_)
  refine wp_zreturn eX9_isDisk_13 (by split <;> decide) ?_
  exact k
theorem ct_mIsItem {G : bc_G} {M : bc_M} {post : bc_R → bc_M → Prop} {v : Int} (k : post (.inr (some (vI (if 0 ≤ v ∧ v ≤ M 33 0 6 - 1 then 1 else 0)))) M) (h_v : -2147483648 ≤ v ∧ v < 2147483648 := by omega) (hf : 0 ≤ M 33 0 6 ∧ M 33 0 6 ≤ 16 := by omega) : bc_Call G yX9_isItem cX9_isItem 2 (some .boolean) 2 0 [vR G 33 0, vI v] M post := by
  refine bc_enter (L := [some (vR G 33 0), some (vI v)]) (by decide) rfl rfl ?_
  refine wp_iload_n eX9_isItem_0 rfl ?_
  refine wp_i2l eX9_isItem_1 ?_
  refine wp_lconst0 eX9_isItem_2 ?_
  refine wp_aload_n eX9_isItem_3 rfl ?_
  refine gf_X9_79 eX9_isItem_4 ?_
  refine wp_iconst eX9_isItem_7 ?_
  refine wp_isub eX9_isItem_8 ?_
  refine wp_i2l eX9_isItem_9 ?_
  refine c_X9_75 eX9_isItem_10 (ct_mIsIn ?_)
  refine wp_zreturn eX9_isItem_13 (by split <;> decide) ?_
  exact k
theorem ct_mIsClient {G : bc_G} {M : bc_M} {post : bc_R → bc_M → Prop} {v : Int} (k : post (.inr (some (vI (if 0 ≤ v ∧ v ≤ M 33 0 7 - 1 then 1 else 0)))) M) (h_v : -2147483648 ≤ v ∧ v < 2147483648 := by omega) (hf : 0 ≤ M 33 0 7 ∧ M 33 0 7 ≤ 16 := by omega) : bc_Call G yX9_isClient cX9_isClient 2 (some .boolean) 2 0 [vR G 33 0, vI v] M post := by
  refine bc_enter (L := [some (vR G 33 0), some (vI v)]) (by decide) rfl rfl ?_
  refine wp_iload_n eX9_isClient_0 rfl ?_
  refine wp_i2l eX9_isClient_1 ?_
  refine wp_lconst0 eX9_isClient_2 ?_
  refine wp_aload_n eX9_isClient_3 rfl ?_
  refine gf_X9_82 eX9_isClient_4 ?_
  refine wp_iconst eX9_isClient_7 ?_
  refine wp_isub eX9_isClient_8 ?_
  refine wp_i2l eX9_isClient_9 ?_
  refine c_X9_75 eX9_isClient_10 (ct_mIsIn ?_)
  refine wp_zreturn eX9_isClient_13 (by split <;> decide) ?_
  exact k
theorem lp_many {G : bc_G} {M : bc_M} {post : bc_R → bc_M → Prop} {s : Int} (hs : 0 ≤ s ∧ s < 65536) : ∀ (n : Nat) (i : Nat) (h1 : i + n = 16) (k : post (.inr (some (vI (bs_cnt s 16)))) M), bc_W G RX9 cX9_many 3 (some .int) 1 0 0 4 [some (vI s), some (vI (bs_cnt s i)), some (vI i)] [] M post := by
  intro n
  induction n with
  | zero =>
    intro i h1 k
    refine wp_iload_n eX9_many_4 rfl ?_
    refine wp_bipush eX9_many_5 ?_
    refine wp_icmp_ge eX9_many_7 (fun c7 => ?_) (fun c7 => ?_)
    · have hi : i = 16 := by omega
      subst hi
      refine wp_iload_n eX9_many_24 rfl ?_
      refine wp_ireturn eX9_many_25 ?_
      exact k
    · omega
  | succ n ih =>
    intro i h1 k
    refine wp_iload_n eX9_many_4 rfl ?_
    refine wp_bipush eX9_many_5 ?_
    refine wp_icmp_ge eX9_many_7 (fun c7 => ?_) (fun c7 => ?_)
    · omega
    · refine wp_iload_n eX9_many_10 rfl ?_
      refine wp_iload_n eX9_many_11 rfl ?_
      refine wp_iload_n eX9_many_12 rfl ?_
      refine wp_ishr eX9_many_13 ?_
      refine wp_iconst eX9_many_14 ?_
      refine wp_iand eX9_many_15 ?_
      rw [bs_bit ⟨by omega, by omega⟩ ⟨by omega, by omega⟩]
      refine wp_iadd eX9_many_16 ?_
      refine ist_1 eX9_many_17 ?_
      refine inc_2 eX9_many_18 ?_
      refine wp_goto eX9_many_21 ?_
      exact ih (i + 1) (by omega) k
theorem ct_mMany {G : bc_G} {M : bc_M} {post : bc_R → bc_M → Prop} {s : Int} (hs : 0 ≤ s ∧ s < 65536) (k : post (.inr (some (vI (bs_cnt s 16)))) M) : bc_Call G yX9_many cX9_many 3 (some .int) 1 0 [vI s] M post := by
  refine bc_enter (L := [some (vI s), none, none]) (by decide) rfl rfl ?_
  refine wp_iconst eX9_many_0 ?_
  refine ist_1 eX9_many_1 ?_
  refine wp_iconst eX9_many_2 ?_
  refine ist_2 eX9_many_3 ?_
  exact lp_many hs 16 0 (by omega) k
def mo_thr (M : bc_M) (v : Int) : Int := if M 33 0 3 = 0 then 1 else if v = 0 then 2 else 0
theorem ct_mIsWrong {G : bc_G} {M : bc_M} {post : bc_R → bc_M → Prop} {v : Int} (k : post (.inr (some (vI (if 0 < mo_thr M v then 1 else 0)))) (bc_up M 33 0 4 (mo_thr M v))) (h_v : -2147483648 ≤ v ∧ v < 2147483648 := by omega) (hf : M 33 0 3 = 0 ∨ M 33 0 3 = 1 := by omega) : bc_Call G yX9_isWrong cX9_isWrong 2 (some .boolean) 1 0 [vR G 33 0, vI v] M post := by
  refine bc_enter (L := [some (vR G 33 0), some (vI v)]) (by decide) rfl rfl ?_
  refine wp_aload_n eX9_isWrong_0 rfl ?_
  refine wp_aload_n eX9_isWrong_1 rfl ?_
  refine gf_X9_68 eX9_isWrong_2 ?_
  refine wp_if_ne eX9_isWrong_5 (fun c5 => ?_) (fun c5 => ?_)
  · refine wp_iload_n eX9_isWrong_12 rfl ?_
    refine wp_if_eq eX9_isWrong_13 (fun c13 => ?_) (fun c13 => ?_)
    · have hk : mo_thr M v = 2 := by
        unfold mo_thr
        rw [if_neg (by omega), if_pos c13]
      rw [hk] at k
      refine wp_iconst eX9_isWrong_20 ?_
      refine pf_X9_65 eX9_isWrong_21 ?_
      refine wp_aload_n eX9_isWrong_24 rfl ?_
      refine gf_X9_65 eX9_isWrong_25 ?_
      rw [up_v, if_pos rfl]
      refine wp_if_le eX9_isWrong_28 (fun c28 => ?_) (fun c28 => ?_)
      · exact absurd c28 (by decide)
      · refine wp_iconst eX9_isWrong_31 ?_
        refine wp_goto eX9_isWrong_32 ?_
        refine wp_zreturn eX9_isWrong_36 (by decide) ?_
        exact k
    · have hk : mo_thr M v = 0 := by
        unfold mo_thr
        rw [if_neg (by omega), if_neg c13]
      rw [hk] at k
      refine wp_iconst eX9_isWrong_16 ?_
      refine wp_goto eX9_isWrong_17 ?_
      refine pf_X9_65 eX9_isWrong_21 ?_
      refine wp_aload_n eX9_isWrong_24 rfl ?_
      refine gf_X9_65 eX9_isWrong_25 ?_
      rw [up_v, if_pos rfl]
      refine wp_if_le eX9_isWrong_28 (fun c28 => ?_) (fun c28 => ?_)
      · refine wp_iconst eX9_isWrong_35 ?_
        refine wp_zreturn eX9_isWrong_36 (by decide) ?_
        exact k
      · exact absurd (by decide) c28
  · have hk : mo_thr M v = 1 := by
      unfold mo_thr
      rw [if_pos (by omega)]
    rw [hk] at k
    refine wp_iconst eX9_isWrong_8 ?_
    refine wp_goto eX9_isWrong_9 ?_
    refine pf_X9_65 eX9_isWrong_21 ?_
    refine wp_aload_n eX9_isWrong_24 rfl ?_
    refine gf_X9_65 eX9_isWrong_25 ?_
    rw [up_v, if_pos rfl]
    refine wp_if_le eX9_isWrong_28 (fun c28 => ?_) (fun c28 => ?_)
    · exact absurd c28 (by decide)
    · refine wp_iconst eX9_isWrong_31 ?_
      refine wp_goto eX9_isWrong_32 ?_
      refine wp_zreturn eX9_isWrong_36 (by decide) ?_
      exact k
def pw (w : Int) : Nat → bc_M → bc_M
  | 0, M => M
  | n + 1, M => pw w n (bc_up (bc_up M 38 0 (M 33 0 11) (bx_and (bx_shr w (8 * n)) 255)) 33 0 11 (M 33 0 11 + 1))
theorem pw_len {w : Int} : ∀ (n : Nat) (M : bc_M), pw w n M 33 0 11 = M 33 0 11 + n
  | 0, M => by simp [pw]
  | n + 1, M => by
    simp only [pw]
    rw [pw_len n, up_v, if_pos rfl]
    omega
theorem lp_pw {G : bc_G} {post : bc_R → bc_M → Prop} {w : Int} : ∀ (n : Nat) (sh : Int) (Mc : bc_M) (h1 : sh = 8 * n - 8) (h3 : 0 ≤ Mc 33 0 11 ∧ Mc 33 0 11 + n ≤ 500) (h4 : n ≤ 4) (k : post (.inr none) (pw w n Mc)), bc_W G RX9 cX9_put 3 none 1 0 0 3 [some (vR G 33 0), some (vI w), some (vI sh)] [] Mc post := by
  intro n
  induction n with
  | zero =>
    intro sh Mc h1 h3 h4 k
    refine wp_iload_n eX9_put_3 rfl ?_
    refine wp_if_lt eX9_put_4 (fun c4 => ?_) (fun c4 => ?_)
    · simp only [pw] at k
      refine wp_return eX9_put_39 ?_
      exact k
    · omega
  | succ n ih =>
    intro sh Mc h1 h3 h4 k
    refine wp_iload_n eX9_put_3 rfl ?_
    refine wp_if_lt eX9_put_4 (fun c4 => ?_) (fun c4 => ?_)
    · omega
    · refine wp_aload_n eX9_put_7 rfl ?_
      refine gf_X9_22 eX9_put_8 ?_
      refine wp_aload_n eX9_put_11 rfl ?_
      refine gf_X9_85 eX9_put_12 ?_
      refine wp_iload_n eX9_put_15 rfl ?_
      refine wp_iload_n eX9_put_16 rfl ?_
      refine wp_ishr eX9_put_17 ?_
      refine wp_sipush eX9_put_18 ?_
      refine wp_iand eX9_put_21 ?_
      refine as_38 eX9_put_22 ?_
      refine wp_aload_n eX9_put_23 rfl ?_
      refine wp_dup eX9_put_24 ?_
      refine gf_X9_85 eX9_put_25 ?_
      refine wp_iconst eX9_put_28 ?_
      refine wp_iadd eX9_put_29 ?_
      refine pf_X9_85 eX9_put_30 ?_
      rw [up_kne (k := 38) (k' := 33) (by decide)]
      refine inc_2 eX9_put_33 ?_
      refine wp_goto eX9_put_36 ?_
      simp only [pw] at k
      rw [show sh = 8 * (n : Int) by omega]
      exact ih _ _ (by omega) (by rw [up_v, if_pos rfl]; omega) (by omega) k
theorem ct_mPut {G : bc_G} {M : bc_M} {post : bc_R → bc_M → Prop} {w : Int} (ht : 0 ≤ M 33 0 11 ∧ M 33 0 11 ≤ 496) (k : post (.inr none) (pw w 4 M)) : bc_Call G yX9_put cX9_put 3 none 1 0 [vR G 33 0, vI w] M post := by
  refine bc_enter (L := [some (vR G 33 0), some (vI w), none]) (by decide) rfl rfl ?_
  refine wp_bipush eX9_put_0 ?_
  refine ist_2 eX9_put_2 ?_
  exact lp_pw 4 24 M (by omega) (by omega) (by omega) k
theorem ct_mAppend {G : bc_G} {M : bc_M} {post : bc_R → bc_M → Prop} {a b c d e : Int} (ht : 0 ≤ M 33 0 11 ∧ M 33 0 11 ≤ 500) (k1 : 480 < M 33 0 11 → post (.inr (some (vI 0))) (bc_up M 33 0 4 1)) (k2 : M 33 0 11 ≤ 480 → post (.inr (some (vI (M 33 0 11 + 20)))) (pw e 4 (pw d 4 (pw c 4 (pw b 4 (pw a 4 (bc_up M 33 0 4 0))))))) : bc_Call G yX9_append cX9_append 6 (some .int) 2 0 [vR G 33 0, vI a, vI b, vI c, vI d, vI e] M post := by
  refine bc_enter (L := [some (vR G 33 0), some (vI a), some (vI b), some (vI c), some (vI d), some (vI e)]) (by decide) rfl rfl ?_
  refine wp_aload_n eX9_append_0 rfl ?_
  refine wp_aload_n eX9_append_1 rfl ?_
  refine gf_X9_85 eX9_append_2 ?_
  refine wp_bipush eX9_append_5 ?_
  refine wp_iadd eX9_append_7 ?_
  refine wp_sipush eX9_append_8 ?_
  refine wp_icmp_le eX9_append_11 (fun c11 => ?_) (fun c11 => ?_)
  · refine wp_iconst eX9_append_18 ?_
    refine pf_X9_65 eX9_append_19 ?_
    refine wp_aload_n eX9_append_22 rfl ?_
    refine gf_X9_65 eX9_append_23 ?_
    rw [up_v, if_pos rfl]
    refine wp_if_le eX9_append_26 (fun c26 => ?_) (fun c26 => ?_)
    · refine wp_aload_n eX9_append_31 rfl ?_
      refine wp_iload_n eX9_append_32 rfl ?_
      refine c_X9_88 eX9_append_33 (ct_mPut (by first | (rw [up_v, if_neg (by decide)]; omega) | (simp only [pw_len]; rw [up_v, if_neg (by decide)]; omega)) ?_)
      refine wp_aload_n eX9_append_36 rfl ?_
      refine wp_iload_n eX9_append_37 rfl ?_
      refine c_X9_88 eX9_append_38 (ct_mPut (by first | (rw [up_v, if_neg (by decide)]; omega) | (simp only [pw_len]; rw [up_v, if_neg (by decide)]; omega)) ?_)
      refine wp_aload_n eX9_append_41 rfl ?_
      refine wp_iload_n eX9_append_42 rfl ?_
      refine c_X9_88 eX9_append_43 (ct_mPut (by first | (rw [up_v, if_neg (by decide)]; omega) | (simp only [pw_len]; rw [up_v, if_neg (by decide)]; omega)) ?_)
      refine wp_aload_n eX9_append_46 rfl ?_
      refine wp_iload eX9_append_47 rfl ?_
      refine c_X9_88 eX9_append_49 (ct_mPut (by first | (rw [up_v, if_neg (by decide)]; omega) | (simp only [pw_len]; rw [up_v, if_neg (by decide)]; omega)) ?_)
      refine wp_aload_n eX9_append_52 rfl ?_
      refine wp_iload eX9_append_53 rfl ?_
      refine c_X9_88 eX9_append_55 (ct_mPut (by first | (rw [up_v, if_neg (by decide)]; omega) | (simp only [pw_len]; rw [up_v, if_neg (by decide)]; omega)) ?_)
      refine wp_aload_n eX9_append_58 rfl ?_
      refine gf_X9_85 eX9_append_59 ?_
      refine wp_ireturn eX9_append_62 ?_
      rw [show pw e 4 (pw d 4 (pw c 4 (pw b 4 (pw a 4 (bc_up M 33 0 4 0))))) 33 0 11 = M 33 0 11 + 20 by simp only [pw_len]; rw [up_v, if_neg (by decide)]; omega]
      exact k2 (by omega)
    · exact absurd (by decide) c26
  · refine wp_iconst eX9_append_14 ?_
    refine wp_goto eX9_append_15 ?_
    refine pf_X9_65 eX9_append_19 ?_
    refine wp_aload_n eX9_append_22 rfl ?_
    refine gf_X9_65 eX9_append_23 ?_
    rw [up_v, if_pos rfl]
    refine wp_if_le eX9_append_26 (fun c26 => ?_) (fun c26 => ?_)
    · exact absurd c26 (by decide)
    · refine wp_iconst eX9_append_29 ?_
      refine wp_ireturn eX9_append_30 ?_
      exact k1 (by omega)
theorem ct_mTruncate {G : bc_G} {M : bc_M} {post : bc_R → bc_M → Prop} {v : Int} (ht : 0 ≤ M 33 0 11 ∧ M 33 0 11 ≤ 500) (k1 : (v < 0 ∨ M 33 0 11 < v) → post (.inr (some (vI 0))) (bc_up M 33 0 4 1)) (k2 : 0 ≤ v → v ≤ M 33 0 11 → post (.inr (some (vI v))) (bc_up (bc_up M 33 0 4 0) 33 0 11 v)) (h_v : -2147483648 ≤ v ∧ v < 2147483648 := by omega) : bc_Call G yX9_truncate cX9_truncate 2 (some .int) 2 0 [vR G 33 0, vI v] M post := by
  refine bc_enter (L := [some (vR G 33 0), some (vI v)]) (by decide) rfl rfl ?_
  refine wp_aload_n eX9_truncate_0 rfl ?_
  refine wp_iload_n eX9_truncate_1 rfl ?_
  refine wp_i2l eX9_truncate_2 ?_
  refine wp_lconst0 eX9_truncate_3 ?_
  refine wp_aload_n eX9_truncate_4 rfl ?_
  refine gf_X9_85 eX9_truncate_5 ?_
  refine wp_i2l eX9_truncate_8 ?_
  refine c_X9_75 eX9_truncate_9 (ct_mIsIn ?_)
  refine wp_if_eq eX9_truncate_12 (fun c12 => ?_) (fun c12 => ?_) (by split <;> decide)
  · have hb : ¬ (0 ≤ v ∧ v ≤ M 33 0 11) := by
      intro h9
      rw [if_pos h9] at c12
      exact absurd c12 (by decide)
    refine wp_iconst eX9_truncate_19 ?_
    refine pf_X9_65 eX9_truncate_20 ?_
    refine wp_aload_n eX9_truncate_23 rfl ?_
    refine gf_X9_65 eX9_truncate_24 ?_
    rw [up_v, if_pos rfl]
    refine wp_if_le eX9_truncate_27 (fun c27 => ?_) (fun c27 => ?_)
    · exact absurd c27 (by decide)
    · refine wp_iconst eX9_truncate_30 ?_
      refine wp_ireturn eX9_truncate_31 ?_
      exact k1 (by omega)
  · have hb : 0 ≤ v ∧ v ≤ M 33 0 11 := by
      apply Decidable.byContradiction
      intro h9
      rw [if_neg h9] at c12
      exact absurd rfl c12
    refine wp_iconst eX9_truncate_15 ?_
    refine wp_goto eX9_truncate_16 ?_
    refine pf_X9_65 eX9_truncate_20 ?_
    refine wp_aload_n eX9_truncate_23 rfl ?_
    refine gf_X9_65 eX9_truncate_24 ?_
    rw [up_v, if_pos rfl]
    refine wp_if_le eX9_truncate_27 (fun c27 => ?_) (fun c27 => ?_)
    · refine wp_aload_n eX9_truncate_32 rfl ?_
      refine wp_iload_n eX9_truncate_33 rfl ?_
      refine pf_X9_85 eX9_truncate_34 ?_
      refine wp_aload_n eX9_truncate_37 rfl ?_
      refine gf_X9_85 eX9_truncate_38 ?_
      rw [up_v, if_pos rfl]
      refine wp_ireturn eX9_truncate_41 ?_
      exact k2 (by omega) (by omega)
    · exact absurd (by decide) c27
theorem ct_ofClient {G : bc_G} {M : bc_M} {post : bc_R → bc_M → Prop} {c f : Int} (hc : 0 ≤ c ∧ c < 4) (hf : 0 ≤ f ∧ f < 38) (k : post (.inr (some (vI (M 34 0 (54 + 38 * c + f))))) M) : bc_Call G yX9_ofClient cX9_ofClient 3 (some .int) 1 0 [vR G 33 0, vI c, vI f] M post := by
  refine bc_enter (L := [some (vR G 33 0), some (vI c), some (vI f)]) (by decide) rfl rfl ?_
  refine wp_aload_n eX9_ofClient_0 rfl ?_
  refine gf_X9_7 eX9_ofClient_1 ?_
  refine wp_bipush eX9_ofClient_4 ?_
  refine wp_bipush eX9_ofClient_6 ?_
  refine wp_iload_n eX9_ofClient_8 rfl ?_
  refine wp_imul eX9_ofClient_9 ?_
  refine wp_iadd eX9_ofClient_10 ?_
  refine wp_iload_n eX9_ofClient_11 rfl ?_
  refine wp_iadd eX9_ofClient_12 ?_
  refine al_34 eX9_ofClient_13 ?_
  refine wp_ireturn eX9_ofClient_14 ?_
  exact k
theorem ct_addTo {G : bc_G} {M : bc_M} {post : bc_R → bc_M → Prop} {c f v : Int} (hc : 0 ≤ c ∧ c < 4) (hf : 0 ≤ f ∧ f < 38) (k : post (.inr none) (bc_up M 34 0 (54 + 38 * c + f) (M 34 0 (54 + 38 * c + f) + v))) : bc_Call G yX9_addTo cX9_addTo 4 none 1 0 [vR G 33 0, vI c, vI f, vI v] M post := by
  refine bc_enter (L := [some (vR G 33 0), some (vI c), some (vI f), some (vI v)]) (by decide) rfl rfl ?_
  refine wp_aload_n eX9_addTo_0 rfl ?_
  refine gf_X9_7 eX9_addTo_1 ?_
  refine wp_bipush eX9_addTo_4 ?_
  refine wp_bipush eX9_addTo_6 ?_
  refine wp_iload_n eX9_addTo_8 rfl ?_
  refine wp_imul eX9_addTo_9 ?_
  refine wp_iadd eX9_addTo_10 ?_
  refine wp_iload_n eX9_addTo_11 rfl ?_
  refine wp_iadd eX9_addTo_12 ?_
  refine wp_dup2 eX9_addTo_13 ?_
  refine al_34 eX9_addTo_14 ?_
  refine wp_iload_n eX9_addTo_15 rfl ?_
  refine wp_iadd eX9_addTo_16 ?_
  refine as_34 eX9_addTo_17 ?_
  refine wp_return eX9_addTo_18 ?_
  exact k
