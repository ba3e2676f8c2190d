/-- how far the next slot with x is, after n slots from behind -/
def fd (p : Int → Int) (x len : Int) : Nat → Int
  | 0 => 2 * len
  | n + 1 => if p ((2 * len - (n + 1)) % len) = x then 0 else fd p x len n + 1
theorem fd_rng {p : Int → Int} {x len : Int} (hl : 0 ≤ len) : ∀ n : Nat, 0 ≤ fd p x len n ∧ fd p x len n ≤ 2 * len + n
  | 0 => by simp only [fd]; omega
  | n + 1 => by
    have := fd_rng (p := p) (x := x) hl n
    simp only [fd]
    split <;> omega
def sp_far (p : Int → Int) (x len t : Int) : Int := fd p x len (2 * len - t).toNat
theorem lp_far43 {G : bc_G} {post : bc_R → bc_M → Prop} {x len : Int} {p : Int → Int} {M0 : bc_M} (hlen : 1 ≤ len ∧ len ≤ 400) (hx : -10 ≤ x ∧ x ≤ 100) (e27 : M0 33 0 27 = len) (e42 : M0 42 0 = p) (hp : ∀ t, 0 ≤ t → t < len → -10 ≤ p t ∧ p t ≤ 100) : ∀ (n : Nat) (v w : Int) (Mc : bc_M) (h1 : v + 1 = n) (h2 : v < 2 * len) (h3 : w = fd p x len (2 * len - (v + 1)).toNat) (h4 : -1 ≤ v) (hF : Fr (at1 43 0) M0 Mc) (hrow : ∀ t, v < t → t < len → Mc 43 0 t = sp_far p x len t) (k : ∀ M' : bc_M, Fr (at1 43 0) M0 M' → (∀ t, 0 ≤ t → t < len → M' 43 0 t = sp_far p x len t) → post (.inr none) M'), bc_W G RX9 cX9_layFar 5 none 1 0 0 17 [some (vR G 33 0), some (vR G 43 0), some (vI x), some (vI w), some (vI v)] [] Mc post := by
  intro n
  induction n with
  | zero =>
    intro v w Mc h1 h2 h3 h4 hF hrow k
    have e27c : Mc 33 0 27 = len := by rw [hF 33 0 (by unfold at1; omega)]; exact e27
    have e42c : Mc 42 0 = p := by rw [hF 42 0 (by unfold at1; omega)]; exact e42
    subst h3
    refine wp_iload eX9_layFar_17 rfl ?_
    refine wp_if_lt eX9_layFar_19 (fun c19 => ?_) (fun c19 => ?_)
    · refine wp_return eX9_layFar_62 ?_
      exact k _ hF (fun t a b => hrow t (by omega) b)
    · omega
  | succ n ih =>
    intro v w Mc h1 h2 h3 h4 hF hrow k
    have e27c : Mc 33 0 27 = len := by rw [hF 33 0 (by unfold at1; omega)]; exact e27
    have e42c : Mc 42 0 = p := by rw [hF 42 0 (by unfold at1; omega)]; exact e42
    subst h3
    refine wp_iload eX9_layFar_17 rfl ?_
    refine wp_if_lt eX9_layFar_19 (fun c19 => ?_) (fun c19 => ?_)
    · omega
    · refine wp_aload_n eX9_layFar_22 rfl ?_
      refine gf_X9_38 eX9_layFar_23 ?_
      refine wp_iload eX9_layFar_26 rfl ?_
      refine wp_aload_n eX9_layFar_28 rfl ?_
      refine gf_X9_231 eX9_layFar_29 ?_
      rw [e27c]
      refine wp_irem eX9_layFar_32 ?_
      have hm1 := Int.emod_nonneg v (show len ≠ 0 by omega)
      have hm2 := Int.emod_lt_of_pos v (show 0 < len by omega)
      have hpr := hp (v % len) hm1 hm2
      refine al_42 eX9_layFar_33 ?_
      rw [e42c]
      refine wp_iload_n eX9_layFar_34 rfl ?_
      refine wp_icmp_ne eX9_layFar_35 (fun c35 => ?_) (fun c35 => ?_)
      · refine wp_iload_n eX9_layFar_42 rfl ?_
        refine wp_iconst eX9_layFar_43 ?_
        refine wp_iadd eX9_layFar_44 ?_
        refine ist_3 eX9_layFar_45 ?_
        refine wp_aload_n eX9_layFar_46 rfl ?_
        refine wp_iload eX9_layFar_47 rfl ?_
        refine wp_aload_n eX9_layFar_49 rfl ?_
        refine gf_X9_231 eX9_layFar_50 ?_
        rw [e27c]
        refine wp_irem eX9_layFar_53 ?_
        refine wp_iload_n eX9_layFar_54 rfl ?_
        refine as_43 eX9_layFar_55 ?_
        refine inc_4 eX9_layFar_56 ?_
        refine wp_goto eX9_layFar_59 ?_
        have hst : fd p x len (2 * len - v).toNat = fd p x len (2 * len - (v + 1)).toNat + 1 := by
          rw [show (2 * len - v).toNat = (2 * len - (v + 1)).toNat + 1 by omega]
          simp only [fd]
          rw [show 2 * len - ((((2 * len - (v + 1)).toNat : Nat) : Int) + 1) = v by omega]
          rw [if_neg c35]
        rw [show v + -1 = v - 1 by omega]
        refine ih (v - 1) _ _ (by omega) (by omega) ?_ (by omega) (Fr.tr hF (Fr.up ⟨rfl, rfl⟩)) (fun t a b => ?_) k
        · rw [show 2 * len - (v - 1 + 1) = 2 * len - v by omega]; exact hst.symm
        · rw [up_v]
          by_cases htt : t = v % len
          · rw [if_pos htt]
            have hvl : v < len := by
              apply Decidable.byContradiction
              intro hge
              have h9 : v % len = v - len := by
                have h10 : (v - len) % len = v - len := Int.emod_eq_of_lt (by omega) (by omega)
                have h11 : v % len = (v - len) % len := by
                  have h12 := Int.add_mul_emod_self_left (v - len) len 1
                  rw [Int.mul_one, Int.sub_add_cancel] at h12
                  exact h12
                rw [← h11] at h10
                exact h10
              omega
            have h9 : v % len = v := Int.emod_eq_of_lt (by omega) hvl
            rw [htt, h9]
            exact hst.symm
          · rw [if_neg htt]
            by_cases htv : t = v
            · exfalso
              rw [htv, Int.emod_eq_of_lt (by omega) (by omega)] at htt
              exact htt rfl
            · exact hrow t (by omega) b
      · refine wp_iconst eX9_layFar_38 ?_
        refine wp_goto eX9_layFar_39 ?_
        refine ist_3 eX9_layFar_45 ?_
        refine wp_aload_n eX9_layFar_46 rfl ?_
        refine wp_iload eX9_layFar_47 rfl ?_
        refine wp_aload_n eX9_layFar_49 rfl ?_
        refine gf_X9_231 eX9_layFar_50 ?_
        rw [e27c]
        refine wp_irem eX9_layFar_53 ?_
        refine wp_iload_n eX9_layFar_54 rfl ?_
        refine as_43 eX9_layFar_55 ?_
        refine inc_4 eX9_layFar_56 ?_
        refine wp_goto eX9_layFar_59 ?_
        have hst : fd p x len (2 * len - v).toNat = 0 := by
          rw [show (2 * len - v).toNat = (2 * len - (v + 1)).toNat + 1 by omega]
          simp only [fd]
          rw [show 2 * len - ((((2 * len - (v + 1)).toNat : Nat) : Int) + 1) = v by omega]
          rw [if_pos (by omega)]
        rw [show v + -1 = v - 1 by omega]
        refine ih (v - 1) _ _ (by omega) (by omega) ?_ (by omega) (Fr.tr hF (Fr.up ⟨rfl, rfl⟩)) (fun t a b => ?_) k
        · rw [show 2 * len - (v - 1 + 1) = 2 * len - v by omega]; exact hst.symm
        · rw [up_v]
          by_cases htt : t = v % len
          · rw [if_pos htt]
            have hvl : v < len := by
              apply Decidable.byContradiction
              intro hge
              have h9 : v % len = v - len := by
                have h10 : (v - len) % len = v - len := Int.emod_eq_of_lt (by omega) (by omega)
                have h11 : v % len = (v - len) % len := by
                  have h12 := Int.add_mul_emod_self_left (v - len) len 1
                  rw [Int.mul_one, Int.sub_add_cancel] at h12
                  exact h12
                rw [← h11] at h10
                exact h10
              omega
            have h9 : v % len = v := Int.emod_eq_of_lt (by omega) hvl
            rw [htt, h9]
            exact hst.symm
          · rw [if_neg htt]
            by_cases htv : t = v
            · exfalso
              rw [htv, Int.emod_eq_of_lt (by omega) (by omega)] at htt
              exact htt rfl
            · exact hrow t (by omega) b
theorem ct_layFar43 {G : bc_G} {M : bc_M} {post : bc_R → bc_M → Prop} {x len : Int} {p : Int → Int} (hlen : 1 ≤ len ∧ len ≤ 400) (hx : -10 ≤ x ∧ x ≤ 100) (e27 : M 33 0 27 = len) (e42 : M 42 0 = p) (hp : ∀ t, 0 ≤ t → t < len → -10 ≤ p t ∧ p t ≤ 100) (k : ∀ M' : bc_M, Fr (at1 43 0) M M' → (∀ t, 0 ≤ t → t < len → M' 43 0 t = sp_far p x len t) → post (.inr none) M') : bc_Call G yX9_layFar cX9_layFar 5 none 1 0 [vR G 33 0, vR G 43 0, vI x] M post := by
  refine bc_enter (L := [some (vR G 33 0), some (vR G 43 0), some (vI x), none, none]) (by decide) rfl rfl ?_
  refine wp_iconst eX9_layFar_0 ?_
  refine wp_aload_n eX9_layFar_1 rfl ?_
  refine gf_X9_231 eX9_layFar_2 ?_
  rw [e27]
  refine wp_imul eX9_layFar_5 ?_
  refine ist_3 eX9_layFar_6 ?_
  refine wp_iconst eX9_layFar_7 ?_
  refine wp_aload_n eX9_layFar_8 rfl ?_
  refine gf_X9_231 eX9_layFar_9 ?_
  rw [e27]
  refine wp_imul eX9_layFar_12 ?_
  refine wp_iconst eX9_layFar_13 ?_
  refine wp_isub eX9_layFar_14 ?_
  refine ist_4 eX9_layFar_15 ?_
  exact lp_far43 hlen hx e27 e42 hp (2 * len).toNat (2 * len - 1) (2 * len) M (by omega) (by omega) (by rw [show (2 * len - (2 * len - 1 + 1)).toNat = 0 by omega]; rfl) (by omega) Fr.rf (fun t a b => by omega) k
theorem lp_far44 {G : bc_G} {post : bc_R → bc_M → Prop} {x len : Int} {p : Int → Int} {M0 : bc_M} (hlen : 1 ≤ len ∧ len ≤ 400) (hx : -10 ≤ x ∧ x ≤ 100) (e27 : M0 33 0 27 = len) (e42 : M0 42 0 = p) (hp : ∀ t, 0 ≤ t → t < len → -10 ≤ p t ∧ p t ≤ 100) : ∀ (n : Nat) (v w : Int) (Mc : bc_M) (h1 : v + 1 = n) (h2 : v < 2 * len) (h3 : w = fd p x len (2 * len - (v + 1)).toNat) (h4 : -1 ≤ v) (hF : Fr (at1 44 0) M0 Mc) (hrow : ∀ t, v < t → t < len → Mc 44 0 t = sp_far p x len t) (k : ∀ M' : bc_M, Fr (at1 44 0) M0 M' → (∀ t, 0 ≤ t → t < len → M' 44 0 t = sp_far p x len t) → post (.inr none) M'), bc_W G RX9 cX9_layFar 5 none 1 0 0 17 [some (vR G 33 0), some (vR G 44 0), some (vI x), some (vI w), some (vI v)] [] Mc post := by
  intro n
  induction n with
  | zero =>
    intro v w Mc h1 h2 h3 h4 hF hrow k
    have e27c : Mc 33 0 27 = len := by rw [hF 33 0 (by unfold at1; omega)]; exact e27
    have e42c : Mc 42 0 = p := by rw [hF 42 0 (by unfold at1; omega)]; exact e42
    subst h3
    refine wp_iload eX9_layFar_17 rfl ?_
    refine wp_if_lt eX9_layFar_19 (fun c19 => ?_) (fun c19 => ?_)
    · refine wp_return eX9_layFar_62 ?_
      exact k _ hF (fun t a b => hrow t (by omega) b)
    · omega
  | succ n ih =>
    intro v w Mc h1 h2 h3 h4 hF hrow k
    have e27c : Mc 33 0 27 = len := by rw [hF 33 0 (by unfold at1; omega)]; exact e27
    have e42c : Mc 42 0 = p := by rw [hF 42 0 (by unfold at1; omega)]; exact e42
    subst h3
    refine wp_iload eX9_layFar_17 rfl ?_
    refine wp_if_lt eX9_layFar_19 (fun c19 => ?_) (fun c19 => ?_)
    · omega
    · refine wp_aload_n eX9_layFar_22 rfl ?_
      refine gf_X9_38 eX9_layFar_23 ?_
      refine wp_iload eX9_layFar_26 rfl ?_
      refine wp_aload_n eX9_layFar_28 rfl ?_
      refine gf_X9_231 eX9_layFar_29 ?_
      rw [e27c]
      refine wp_irem eX9_layFar_32 ?_
      have hm1 := Int.emod_nonneg v (show len ≠ 0 by omega)
      have hm2 := Int.emod_lt_of_pos v (show 0 < len by omega)
      have hpr := hp (v % len) hm1 hm2
      refine al_42 eX9_layFar_33 ?_
      rw [e42c]
      refine wp_iload_n eX9_layFar_34 rfl ?_
      refine wp_icmp_ne eX9_layFar_35 (fun c35 => ?_) (fun c35 => ?_)
      · refine wp_iload_n eX9_layFar_42 rfl ?_
        refine wp_iconst eX9_layFar_43 ?_
        refine wp_iadd eX9_layFar_44 ?_
        refine ist_3 eX9_layFar_45 ?_
        refine wp_aload_n eX9_layFar_46 rfl ?_
        refine wp_iload eX9_layFar_47 rfl ?_
        refine wp_aload_n eX9_layFar_49 rfl ?_
        refine gf_X9_231 eX9_layFar_50 ?_
        rw [e27c]
        refine wp_irem eX9_layFar_53 ?_
        refine wp_iload_n eX9_layFar_54 rfl ?_
        refine as_44 eX9_layFar_55 ?_
        refine inc_4 eX9_layFar_56 ?_
        refine wp_goto eX9_layFar_59 ?_
        have hst : fd p x len (2 * len - v).toNat = fd p x len (2 * len - (v + 1)).toNat + 1 := by
          rw [show (2 * len - v).toNat = (2 * len - (v + 1)).toNat + 1 by omega]
          simp only [fd]
          rw [show 2 * len - ((((2 * len - (v + 1)).toNat : Nat) : Int) + 1) = v by omega]
          rw [if_neg c35]
        rw [show v + -1 = v - 1 by omega]
        refine ih (v - 1) _ _ (by omega) (by omega) ?_ (by omega) (Fr.tr hF (Fr.up ⟨rfl, rfl⟩)) (fun t a b => ?_) k
        · rw [show 2 * len - (v - 1 + 1) = 2 * len - v by omega]; exact hst.symm
        · rw [up_v]
          by_cases htt : t = v % len
          · rw [if_pos htt]
            have hvl : v < len := by
              apply Decidable.byContradiction
              intro hge
              have h9 : v % len = v - len := by
                have h10 : (v - len) % len = v - len := Int.emod_eq_of_lt (by omega) (by omega)
                have h11 : v % len = (v - len) % len := by
                  have h12 := Int.add_mul_emod_self_left (v - len) len 1
                  rw [Int.mul_one, Int.sub_add_cancel] at h12
                  exact h12
                rw [← h11] at h10
                exact h10
              omega
            have h9 : v % len = v := Int.emod_eq_of_lt (by omega) hvl
            rw [htt, h9]
            exact hst.symm
          · rw [if_neg htt]
            by_cases htv : t = v
            · exfalso
              rw [htv, Int.emod_eq_of_lt (by omega) (by omega)] at htt
              exact htt rfl
            · exact hrow t (by omega) b
      · refine wp_iconst eX9_layFar_38 ?_
        refine wp_goto eX9_layFar_39 ?_
        refine ist_3 eX9_layFar_45 ?_
        refine wp_aload_n eX9_layFar_46 rfl ?_
        refine wp_iload eX9_layFar_47 rfl ?_
        refine wp_aload_n eX9_layFar_49 rfl ?_
        refine gf_X9_231 eX9_layFar_50 ?_
        rw [e27c]
        refine wp_irem eX9_layFar_53 ?_
        refine wp_iload_n eX9_layFar_54 rfl ?_
        refine as_44 eX9_layFar_55 ?_
        refine inc_4 eX9_layFar_56 ?_
        refine wp_goto eX9_layFar_59 ?_
        have hst : fd p x len (2 * len - v).toNat = 0 := by
          rw [show (2 * len - v).toNat = (2 * len - (v + 1)).toNat + 1 by omega]
          simp only [fd]
          rw [show 2 * len - ((((2 * len - (v + 1)).toNat : Nat) : Int) + 1) = v by omega]
          rw [if_pos (by omega)]
        rw [show v + -1 = v - 1 by omega]
        refine ih (v - 1) _ _ (by omega) (by omega) ?_ (by omega) (Fr.tr hF (Fr.up ⟨rfl, rfl⟩)) (fun t a b => ?_) k
        · rw [show 2 * len - (v - 1 + 1) = 2 * len - v by omega]; exact hst.symm
        · rw [up_v]
          by_cases htt : t = v % len
          · rw [if_pos htt]
            have hvl : v < len := by
              apply Decidable.byContradiction
              intro hge
              have h9 : v % len = v - len := by
                have h10 : (v - len) % len = v - len := Int.emod_eq_of_lt (by omega) (by omega)
                have h11 : v % len = (v - len) % len := by
                  have h12 := Int.add_mul_emod_self_left (v - len) len 1
                  rw [Int.mul_one, Int.sub_add_cancel] at h12
                  exact h12
                rw [← h11] at h10
                exact h10
              omega
            have h9 : v % len = v := Int.emod_eq_of_lt (by omega) hvl
            rw [htt, h9]
            exact hst.symm
          · rw [if_neg htt]
            by_cases htv : t = v
            · exfalso
              rw [htv, Int.emod_eq_of_lt (by omega) (by omega)] at htt
              exact htt rfl
            · exact hrow t (by omega) b
theorem ct_layFar44 {G : bc_G} {M : bc_M} {post : bc_R → bc_M → Prop} {x len : Int} {p : Int → Int} (hlen : 1 ≤ len ∧ len ≤ 400) (hx : -10 ≤ x ∧ x ≤ 100) (e27 : M 33 0 27 = len) (e42 : M 42 0 = p) (hp : ∀ t, 0 ≤ t → t < len → -10 ≤ p t ∧ p t ≤ 100) (k : ∀ M' : bc_M, Fr (at1 44 0) M M' → (∀ t, 0 ≤ t → t < len → M' 44 0 t = sp_far p x len t) → post (.inr none) M') : bc_Call G yX9_layFar cX9_layFar 5 none 1 0 [vR G 33 0, vR G 44 0, vI x] M post := by
  refine bc_enter (L := [some (vR G 33 0), some (vR G 44 0), some (vI x), none, none]) (by decide) rfl rfl ?_
  refine wp_iconst eX9_layFar_0 ?_
  refine wp_aload_n eX9_layFar_1 rfl ?_
  refine gf_X9_231 eX9_layFar_2 ?_
  rw [e27]
  refine wp_imul eX9_layFar_5 ?_
  refine ist_3 eX9_layFar_6 ?_
  refine wp_iconst eX9_layFar_7 ?_
  refine wp_aload_n eX9_layFar_8 rfl ?_
  refine gf_X9_231 eX9_layFar_9 ?_
  rw [e27]
  refine wp_imul eX9_layFar_12 ?_
  refine wp_iconst eX9_layFar_13 ?_
  refine wp_isub eX9_layFar_14 ?_
  refine ist_4 eX9_layFar_15 ?_
  exact lp_far44 hlen hx e27 e42 hp (2 * len).toNat (2 * len - 1) (2 * len) M (by omega) (by omega) (by rw [show (2 * len - (2 * len - 1 + 1)).toNat = 0 by omega]; rfl) (by omega) Fr.rf (fun t a b => by omega) k
theorem ct_lay {G : bc_G} {M : bc_M} {post : bc_R → bc_M → Prop} {x len : Int} {p : Int → Int} (hlen : 1 ≤ len ∧ len ≤ 400) (hx : -10 ≤ x ∧ x ≤ 100) (e27 : M 33 0 27 = len) (e42 : M 42 0 = p) (hp : ∀ t, 0 ≤ t → t < len → -10 ≤ p t ∧ p t ≤ 100) (k : ∀ M' : bc_M, Fr (fun k' j' => (k' = 43 ∨ k' = 44) ∧ j' = 0) M M' → (∀ t, 0 ≤ t → t < len → M' 43 0 t = sp_far p x len t) → (∀ t, 0 ≤ t → t < len → M' 44 0 t = sp_far p (-3) len t) → post (.inr none) M') : bc_Call G yX9_lay cX9_lay 2 none 2 0 [vR G 33 0, vI x] M post := by
  refine bc_enter (L := [some (vR G 33 0), some (vI x)]) (by decide) rfl rfl ?_
  refine wp_aload_n eX9_lay_0 rfl ?_
  refine wp_aload_n eX9_lay_1 rfl ?_
  refine gf_X9_41 eX9_lay_2 ?_
  refine wp_iload_n eX9_lay_5 rfl ?_
  refine c_X9_233 eX9_lay_6 (ct_layFar43 hlen hx e27 e42 hp (fun M1 g1 g2 => ?_))
  refine wp_aload_n eX9_lay_9 rfl ?_
  refine wp_aload_n eX9_lay_10 rfl ?_
  refine gf_X9_44 eX9_lay_11 ?_
  refine wp_bipush eX9_lay_14 ?_
  refine c_X9_233 eX9_lay_16 (ct_layFar44 hlen (by omega) (by rw [g1 33 0 (by unfold at1; omega)]; exact e27) (by rw [g1 42 0 (by unfold at1; omega)]; exact e42) hp (fun M2 g3 g4 => ?_))
  refine wp_return eX9_lay_19 ?_
  exact k M2 (Fr.tr (g1.mono (fun k9 j9 h9 => ⟨Or.inl h9.1, h9.2⟩)) (g3.mono (fun k9 j9 h9 => ⟨Or.inr h9.1, h9.2⟩))) (fun t a b => by rw [g3 43 0 (by unfold at1; omega)]; exact g2 t a b) g4
def sp_ac (p : Int → Int) (sg ln x len t : Int) : Int := if sg = 0 ∨ sp_far p x len t = 0 then sp_far p x len t + 1 else sp_far p (-3) len t + ln + sp_far p x len ((t + (sp_far p (-3) len t + ln)) % len) + 1
def sp_tu (p : Int → Int) (sg ln x len t : Int) : Int := if sg = 0 ∨ sp_far p x len t = 0 then sp_far p x len t + 1 else ln + (if sp_far p (-3) len t = 0 then 1 else 2)
theorem sp_far_rng {p : Int → Int} {x len t : Int} (hl : 0 ≤ len ∧ len ≤ 400) (ht : 0 ≤ t) : 0 ≤ sp_far p x len t ∧ sp_far p x len t ≤ 1600 := by
  have := fd_rng (p := p) (x := x) hl.1 (2 * len - t).toNat
  unfold sp_far
  omega
theorem ct_accessAt {G : bc_G} {M : bc_M} {post : bc_R → bc_M → Prop} {x len sg ln t : Int} {p : Int → Int} (hlen : 1 ≤ len ∧ len ≤ 400) (e27 : M 33 0 27 = len) (e52 : M 34 0 52 = sg) (e53 : M 34 0 53 = ln) (hg : 0 ≤ sg ∧ sg ≤ 8) (hl : 1 ≤ ln ∧ ln ≤ 4) (e43 : ∀ t, 0 ≤ t → t < len → M 43 0 t = sp_far p x len t) (e44 : ∀ t, 0 ≤ t → t < len → M 44 0 t = sp_far p (-3) len t) (ht : 0 ≤ t ∧ t < len) (k : post (.inr (some (vI (sp_ac p sg ln x len t)))) M) : bc_Call G yX9_accessAt cX9_accessAt 3 (some .int) 1 0 [vR G 33 0, vI t] M post := by
  have h43 := e43 t ht.1 ht.2
  have h44 := e44 t ht.1 ht.2
  have f43 := sp_far_rng (p := p) (x := x) (len := len) (t := t) (by omega) ht.1
  have f44 := sp_far_rng (p := p) (x := -3) (len := len) (t := t) (by omega) ht.1
  refine bc_enter (L := [some (vR G 33 0), some (vI t), none]) (by decide) rfl rfl ?_
  refine wp_aload_n eX9_accessAt_0 rfl ?_
  refine gf_X9_7 eX9_accessAt_1 ?_
  refine wp_bipush eX9_accessAt_4 ?_
  refine al_34 eX9_accessAt_6 ?_
  rw [e52]
  refine wp_if_eq eX9_accessAt_7 (fun c7 => ?_) (fun c7 => ?_)
  · refine wp_aload_n eX9_accessAt_19 rfl ?_
    refine gf_X9_41 eX9_accessAt_20 ?_
    refine wp_iload_n eX9_accessAt_23 rfl ?_
    refine al_43 eX9_accessAt_24 ?_
    rw [h43]
    refine wp_iconst eX9_accessAt_25 ?_
    refine wp_iadd eX9_accessAt_26 ?_
    refine wp_ireturn eX9_accessAt_27 ?_
    rw [show sp_ac p sg ln x len t = sp_far p x len t + 1 by unfold sp_ac; rw [if_pos (by omega)]] at k
    exact k
  · refine wp_aload_n eX9_accessAt_10 rfl ?_
    refine gf_X9_41 eX9_accessAt_11 ?_
    refine wp_iload_n eX9_accessAt_14 rfl ?_
    refine al_43 eX9_accessAt_15 ?_
    rw [h43]
    refine wp_if_ne eX9_accessAt_16 (fun c16 => ?_) (fun c16 => ?_)
    · refine wp_aload_n eX9_accessAt_28 rfl ?_
      refine gf_X9_44 eX9_accessAt_29 ?_
      refine wp_iload_n eX9_accessAt_32 rfl ?_
      refine al_44 eX9_accessAt_33 ?_
      rw [h44]
      refine wp_aload_n eX9_accessAt_34 rfl ?_
      refine gf_X9_7 eX9_accessAt_35 ?_
      refine wp_bipush eX9_accessAt_38 ?_
      refine al_34 eX9_accessAt_40 ?_
      rw [e53]
      refine wp_iadd eX9_accessAt_41 ?_
      refine ist_2 eX9_accessAt_42 ?_
      refine wp_iload_n eX9_accessAt_43 rfl ?_
      refine wp_aload_n eX9_accessAt_44 rfl ?_
      refine gf_X9_41 eX9_accessAt_45 ?_
      refine wp_iload_n eX9_accessAt_48 rfl ?_
      refine wp_iload_n eX9_accessAt_49 rfl ?_
      refine wp_iadd eX9_accessAt_50 ?_
      refine wp_aload_n eX9_accessAt_51 rfl ?_
      refine gf_X9_231 eX9_accessAt_52 ?_
      rw [e27]
      refine wp_irem eX9_accessAt_55 ?_
      have hm1 := Int.emod_nonneg (t + (sp_far p (-3) len t + ln)) (show len ≠ 0 by omega)
      have hm2 := Int.emod_lt_of_pos (t + (sp_far p (-3) len t + ln)) (show 0 < len by omega)
      refine al_43 eX9_accessAt_56 ?_
      rw [e43 _ (Int.emod_nonneg _ (by omega)) (Int.emod_lt_of_pos _ (by omega))]
      refine wp_iadd eX9_accessAt_57 ?_
      refine wp_iconst eX9_accessAt_58 ?_
      refine wp_iadd eX9_accessAt_59 ?_
      refine wp_ireturn eX9_accessAt_60 ?_
      rw [show sp_ac p sg ln x len t = sp_far p (-3) len t + ln + sp_far p x len ((t + (sp_far p (-3) len t + ln)) % len) + 1 by unfold sp_ac; rw [if_neg (by omega)]] at k
      exact k
    · refine wp_aload_n eX9_accessAt_19 rfl ?_
      refine gf_X9_41 eX9_accessAt_20 ?_
      refine wp_iload_n eX9_accessAt_23 rfl ?_
      refine al_43 eX9_accessAt_24 ?_
      rw [h43]
      refine wp_iconst eX9_accessAt_25 ?_
      refine wp_iadd eX9_accessAt_26 ?_
      refine wp_ireturn eX9_accessAt_27 ?_
      rw [show sp_ac p sg ln x len t = sp_far p x len t + 1 by unfold sp_ac; rw [if_pos (by omega)]] at k
      exact k
theorem ct_tuningAt {G : bc_G} {M : bc_M} {post : bc_R → bc_M → Prop} {x len sg ln t : Int} {p : Int → Int} (hlen : 1 ≤ len ∧ len ≤ 400) (e27 : M 33 0 27 = len) (e52 : M 34 0 52 = sg) (e53 : M 34 0 53 = ln) (hg : 0 ≤ sg ∧ sg ≤ 8) (hl : 1 ≤ ln ∧ ln ≤ 4) (e43 : ∀ t, 0 ≤ t → t < len → M 43 0 t = sp_far p x len t) (e44 : ∀ t, 0 ≤ t → t < len → M 44 0 t = sp_far p (-3) len t) (ht : 0 ≤ t ∧ t < len) (k : post (.inr (some (vI (sp_tu p sg ln x len t)))) M) : bc_Call G yX9_tuningAt cX9_tuningAt 2 (some .int) 1 0 [vR G 33 0, vI t] M post := by
  have h43 := e43 t ht.1 ht.2
  have h44 := e44 t ht.1 ht.2
  have f43 := sp_far_rng (p := p) (x := x) (len := len) (t := t) (by omega) ht.1
  have f44 := sp_far_rng (p := p) (x := -3) (len := len) (t := t) (by omega) ht.1
  refine bc_enter (L := [some (vR G 33 0), some (vI t)]) (by decide) rfl rfl ?_
  refine wp_aload_n eX9_tuningAt_0 rfl ?_
  refine gf_X9_7 eX9_tuningAt_1 ?_
  refine wp_bipush eX9_tuningAt_4 ?_
  refine al_34 eX9_tuningAt_6 ?_
  rw [e52]
  refine wp_if_eq eX9_tuningAt_7 (fun c7 => ?_) (fun c7 => ?_)
  · refine wp_aload_n eX9_tuningAt_19 rfl ?_
    refine gf_X9_41 eX9_tuningAt_20 ?_
    refine wp_iload_n eX9_tuningAt_23 rfl ?_
    refine al_43 eX9_tuningAt_24 ?_
    rw [h43]
    refine wp_iconst eX9_tuningAt_25 ?_
    refine wp_iadd eX9_tuningAt_26 ?_
    refine wp_ireturn eX9_tuningAt_27 ?_
    rw [show sp_tu p sg ln x len t = sp_far p x len t + 1 by unfold sp_tu; rw [if_pos (by omega)]] at k
    exact k
  · refine wp_aload_n eX9_tuningAt_10 rfl ?_
    refine gf_X9_41 eX9_tuningAt_11 ?_
    refine wp_iload_n eX9_tuningAt_14 rfl ?_
    refine al_43 eX9_tuningAt_15 ?_
    rw [h43]
    refine wp_if_ne eX9_tuningAt_16 (fun c16 => ?_) (fun c16 => ?_)
    · refine wp_aload_n eX9_tuningAt_28 rfl ?_
      refine gf_X9_7 eX9_tuningAt_29 ?_
      refine wp_bipush eX9_tuningAt_32 ?_
      refine al_34 eX9_tuningAt_34 ?_
      rw [e53]
      refine wp_aload_n eX9_tuningAt_35 rfl ?_
      refine gf_X9_44 eX9_tuningAt_36 ?_
      refine wp_iload_n eX9_tuningAt_39 rfl ?_
      refine al_44 eX9_tuningAt_40 ?_
      rw [h44]
      refine wp_if_ne eX9_tuningAt_41 (fun c41 => ?_) (fun c41 => ?_)
      · refine wp_iconst eX9_tuningAt_48 ?_
        refine wp_iadd eX9_tuningAt_49 ?_
        refine wp_ireturn eX9_tuningAt_50 ?_
        have k4 : post (.inr (some (vI (ln + (if sp_far p (-3) len t = 0 then 1 else 2))))) M := by
          rw [show sp_tu p sg ln x len t = ln + (if sp_far p (-3) len t = 0 then 1 else 2) by unfold sp_tu; rw [if_neg (by omega)]] at k
          exact k
        first
        | (rw [if_pos c41] at k4; exact k4)
        | (rw [if_neg c41] at k4; exact k4)
        | (rw [if_pos (by omega)] at k4; exact k4)
      · refine wp_iconst eX9_tuningAt_44 ?_
        refine wp_goto eX9_tuningAt_45 ?_
        refine wp_iadd eX9_tuningAt_49 ?_
        refine wp_ireturn eX9_tuningAt_50 ?_
        have k4 : post (.inr (some (vI (ln + (if sp_far p (-3) len t = 0 then 1 else 2))))) M := by
          rw [show sp_tu p sg ln x len t = ln + (if sp_far p (-3) len t = 0 then 1 else 2) by unfold sp_tu; rw [if_neg (by omega)]] at k
          exact k
        first
        | (rw [if_pos c41] at k4; exact k4)
        | (rw [if_neg c41] at k4; exact k4)
        | (rw [if_pos (by omega)] at k4; exact k4)
    · refine wp_aload_n eX9_tuningAt_19 rfl ?_
      refine gf_X9_41 eX9_tuningAt_20 ?_
      refine wp_iload_n eX9_tuningAt_23 rfl ?_
      refine al_43 eX9_tuningAt_24 ?_
      rw [h43]
      refine wp_iconst eX9_tuningAt_25 ?_
      refine wp_iadd eX9_tuningAt_26 ?_
      refine wp_ireturn eX9_tuningAt_27 ?_
      rw [show sp_tu p sg ln x len t = sp_far p x len t + 1 by unfold sp_tu; rw [if_pos (by omega)]] at k
      exact k
