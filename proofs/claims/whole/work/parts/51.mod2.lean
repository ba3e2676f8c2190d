def mrS (M : bc_M) : Int → Int := if M 33 0 2 = 10 then cpF (M 35 0) (fun q => M 35 0 (q + 206)) 0 1854 else M 35 0
def mrA (M : bc_M) : Int := if M 33 0 2 = 10 then 9 else M 33 0 2
/-- the model's remember -/
def mrM (M : bc_M) : bc_M := bc_up (bc_row M 35 0 (cpF (mrS M) (M 34 0) (206 * mrA M) 206)) 33 0 2 (mrA M + 1)
theorem up_up {M : bc_M} {k : Nat} {j f a b : Int} : bc_up (bc_up M k j f a) k j f b = bc_up M k j f b := by
  funext k' j'
  simp only [bc_up]
  split
  · rename_i h
    rw [if_pos (by simp)]
    funext x
    by_cases hx : x = f
    · subst hx; rw [u_at, u_at]
    · rw [u_ne hx, u_ne hx, u_ne hx]
  · rfl
theorem up_row_c {M : bc_M} {k k2 : Nat} {j j2 f v : Int} {g : Int → Int} (h : k ≠ k2) : bc_up (bc_row M k j g) k2 j2 f v = bc_row (bc_up M k2 j2 f v) k j g := by
  funext k' j'
  simp only [bc_up, bc_row]
  by_cases h1 : k' = k2 ∧ j' = j2
  · rw [if_pos h1, if_neg (by omega), if_pos h1, if_neg (by omega)]
  · rw [if_neg h1, if_neg h1]
theorem up_same {M : bc_M} {k : Nat} {j f : Int} : bc_up M k j f (M k j f) = M := by
  funext k' j'
  simp only [bc_up]
  split
  · rename_i h
    rw [h.1, h.2]
    funext x
    by_cases hx : x = f
    · subst hx; rw [u_at]
    · rw [u_ne hx]
  · rfl
theorem lp_mrA {G : bc_G} {M : bc_M} {post : bc_R → bc_M → Prop} {g : Int → Int} : ∀ (n : Nat) (v : Int) (h1 : v + n = 2060) (h2 : 206 ≤ v) (k : bc_W G RX9 cX9_remember 2 none 1 0 0 42 [some (vR G 33 0), some (vI 2060)] [] (bc_row M 35 0 (cpF g (fun q => g (q + 206)) 0 1854)) post), bc_W G RX9 cX9_remember 2 none 1 0 0 13 [some (vR G 33 0), some (vI v)] [] (bc_row M 35 0 (cpF g (fun q => g (q + 206)) 0 (v - 206))) post := by
  intro n
  induction n with
  | zero =>
    intro v h1 h2 k
    refine wp_iload_n eX9_remember_13 rfl ?_
    refine wp_sipush eX9_remember_14 ?_
    refine wp_icmp_ge eX9_remember_17 (fun c17 => ?_) (fun c17 => ?_)
    · have hv : v = 2060 := by omega
      subst hv
      exact k
    · omega
  | succ n ih =>
    intro v h1 h2 k
    refine wp_iload_n eX9_remember_13 rfl ?_
    refine wp_sipush eX9_remember_14 ?_
    refine wp_icmp_ge eX9_remember_17 (fun c17 => ?_) (fun c17 => ?_)
    · omega
    · refine wp_aload_n eX9_remember_20 rfl ?_
      refine gf_X9_13 eX9_remember_21 ?_
      refine wp_iload_n eX9_remember_24 rfl ?_
      refine wp_sipush eX9_remember_25 ?_
      refine wp_isub eX9_remember_28 ?_
      refine wp_aload_n eX9_remember_29 rfl ?_
      refine gf_X9_13 eX9_remember_30 ?_
      refine wp_iload_n eX9_remember_33 rfl ?_
      refine al_35 eX9_remember_34 ?_
      rw [row_at]
      refine as_35 eX9_remember_35 ?_
      rw [up_row]
      refine inc_1 eX9_remember_36 ?_
      refine wp_goto eX9_remember_39 ?_
      have e1 : cpF g (fun q => g (q + 206)) 0 (v - 206) v = g v := by
        unfold cpF
        rw [if_neg (by omega)]
      rw [e1]
      have e2 := cpF_st (g := g) (h := fun q => g (q + 206)) (b := 0) (n := v - 206) (by omega)
      rw [show 0 + (v - 206) = v - 206 by omega, show v - 206 + 206 = v by omega, show v - 206 + 1 = v + 1 - 206 by omega] at e2
      rw [e2]
      exact ih (v + 1) (by omega) (by omega) k
theorem lp_mrB {G : bc_G} {M : bc_M} {post : bc_R → bc_M → Prop} {g : Int → Int} {a : Int} (e2 : M 33 0 2 = a) (ha : 0 ≤ a ∧ a < 10) : ∀ (n : Nat) (v : Int) (h1 : v + n = 206) (h2 : 0 ≤ v) (k : bc_W G RX9 cX9_remember 2 none 1 0 0 88 [some (vR G 33 0), some (vI 206)] [] (bc_row M 35 0 (cpF g (M 34 0) (206 * a) 206)) post), bc_W G RX9 cX9_remember 2 none 1 0 0 54 [some (vR G 33 0), some (vI v)] [] (bc_row M 35 0 (cpF g (M 34 0) (206 * a) v)) post := by
  intro n
  induction n with
  | zero =>
    intro v h1 h2 k
    refine wp_iload_n eX9_remember_54 rfl ?_
    refine wp_sipush eX9_remember_55 ?_
    refine wp_icmp_ge eX9_remember_58 (fun c58 => ?_) (fun c58 => ?_)
    · have hv : v = 206 := by omega
      subst hv
      exact k
    · omega
  | succ n ih =>
    intro v h1 h2 k
    refine wp_iload_n eX9_remember_54 rfl ?_
    refine wp_sipush eX9_remember_55 ?_
    refine wp_icmp_ge eX9_remember_58 (fun c58 => ?_) (fun c58 => ?_)
    · omega
    · refine wp_aload_n eX9_remember_61 rfl ?_
      refine gf_X9_13 eX9_remember_62 ?_
      refine wp_sipush eX9_remember_65 ?_
      refine wp_aload_n eX9_remember_68 rfl ?_
      refine gf_X9_198 eX9_remember_69 ?_
      rw [row_kne (by decide), e2]
      refine wp_imul eX9_remember_72 ?_
      refine wp_iload_n eX9_remember_73 rfl ?_
      refine wp_iadd eX9_remember_74 ?_
      refine wp_aload_n eX9_remember_75 rfl ?_
      refine gf_X9_7 eX9_remember_76 ?_
      refine wp_iload_n eX9_remember_79 rfl ?_
      refine al_34 eX9_remember_80 ?_
      rw [row_kne (by decide)]
      refine as_35 eX9_remember_81 ?_
      rw [up_row]
      refine inc_1 eX9_remember_82 ?_
      refine wp_goto eX9_remember_85 ?_
      rw [cpF_st h2]
      exact ih (v + 1) (by omega) (by omega) k
theorem ct_mRemember {G : bc_G} {M : bc_M} {post : bc_R → bc_M → Prop} (ha : 0 ≤ M 33 0 2 ∧ M 33 0 2 ≤ 10) (k : post (.inr none) (mrM M)) : bc_Call G yX9_remember cX9_remember 2 none 1 0 [vR G 33 0] M post := by
  refine bc_enter (L := [some (vR G 33 0), none]) (by decide) rfl rfl ?_
  refine wp_aload_n eX9_remember_0 rfl ?_
  refine gf_X9_198 eX9_remember_1 ?_
  refine wp_bipush eX9_remember_4 ?_
  refine wp_icmp_ne eX9_remember_6 (fun c6 => ?_) (fun c6 => ?_)
  · refine wp_iconst eX9_remember_52 ?_
    refine ist_1 eX9_remember_53 ?_
    have eM : M = bc_row M 35 0 (cpF (mrS M) (M 34 0) (206 * M 33 0 2) 0) := by
      rw [cpF0]
      unfold mrS
      rw [if_neg c6, row_self]
    rw [eM]
    refine lp_mrB (a := M 33 0 2) rfl (by omega) 206 0 (by omega) (by omega) ?_
    refine wp_aload_n eX9_remember_88 rfl ?_
    refine wp_dup eX9_remember_89 ?_
    refine gf_X9_198 eX9_remember_90 ?_
    rw [row_kne (by decide)]
    refine wp_iconst eX9_remember_93 ?_
    refine wp_iadd eX9_remember_94 ?_
    refine pf_X9_198 eX9_remember_95 ?_
    refine wp_return eX9_remember_98 ?_
    have hk : mrM M = bc_up (bc_row M 35 0 (cpF (mrS M) (M 34 0) (206 * M 33 0 2) 206)) 33 0 2 (M 33 0 2 + 1) := by
      unfold mrM mrA
      rw [if_neg c6]
    rw [← hk]
    exact k
  · refine wp_sipush eX9_remember_9 ?_
    refine ist_1 eX9_remember_12 ?_
    have eM : M = bc_row M 35 0 (cpF (M 35 0) (fun q => M 35 0 (q + 206)) 0 (206 - 206)) := by
      rw [show (206 : Int) - 206 = 0 from rfl, cpF0, row_self]
    have c6 : M 33 0 2 = 10 := by omega
    rw [eM]
    refine lp_mrA 1854 206 (by omega) (by omega) ?_
    refine wp_aload_n eX9_remember_42 rfl ?_
    refine wp_dup eX9_remember_43 ?_
    refine gf_X9_198 eX9_remember_44 ?_
    rw [row_kne (by decide), c6]
    refine wp_iconst eX9_remember_47 ?_
    refine wp_isub eX9_remember_48 ?_
    refine pf_X9_198 eX9_remember_49 ?_
    refine wp_iconst eX9_remember_52 ?_
    refine ist_1 eX9_remember_53 ?_
    have eM : bc_up (bc_row M 35 0 (cpF (M 35 0) (fun q => M 35 0 (q + 206)) 0 1854)) 33 0 2 (10 - 1) = bc_row (bc_up M 33 0 2 9) 35 0 (cpF (mrS M) (bc_up M 33 0 2 9 34 0) (206 * 9) 0) := by
      rw [cpF0, up_row_c (by decide)]
      unfold mrS
      rw [if_pos c6]
      rfl
    rw [eM]
    refine lp_mrB (a := 9) (by rw [up_v, if_pos rfl]) (by omega) 206 0 (by omega) (by omega) ?_
    refine wp_aload_n eX9_remember_88 rfl ?_
    refine wp_dup eX9_remember_89 ?_
    refine gf_X9_198 eX9_remember_90 ?_
    rw [row_kne (by decide)]
    refine wp_iconst eX9_remember_93 ?_
    refine wp_iadd eX9_remember_94 ?_
    refine pf_X9_198 eX9_remember_95 ?_
    refine wp_return eX9_remember_98 ?_
    have hk : mrM M = bc_up (bc_row (bc_up M 33 0 2 9) 35 0 (cpF (mrS M) (bc_up M 33 0 2 9 34 0) (206 * 9) 206)) 33 0 2 (bc_up M 33 0 2 9 33 0 2 + 1) := by
      unfold mrM mrA
      rw [if_pos c6, up_row_c (by decide), up_row_c (by decide), up_up, up_v, if_pos rfl, up_kne (by decide)]
    rw [← hk]
    exact k
