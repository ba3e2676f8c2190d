/-! writes: what stays -/
def Fr (P : Nat → Int → Prop) (M M' : bc_M) : Prop := ∀ (k : Nat) (j : Int), ¬ P k j → M' k j = M k j
theorem Fr.rf {P : Nat → Int → Prop} {M : bc_M} : Fr P M M := fun _ _ _ => rfl
theorem Fr.tr {P : Nat → Int → Prop} {M M1 M2 : bc_M} (h : Fr P M M1) (h2 : Fr P M1 M2) : Fr P M M2 := fun k j hp => (h2 k j hp).trans (h k j hp)
theorem Fr.mono {P P' : Nat → Int → Prop} {M M1 : bc_M} (h : Fr P M M1) (hp : ∀ k j, P k j → P' k j) : Fr P' M M1 := fun k j hn => h k j (fun q => hn (hp k j q))
theorem up_kne {M : bc_M} {k k' : Nat} {j j' f v : Int} (h : k' ≠ k) : bc_up M k j f v k' j' = M k' j' := by simp only [bc_up, h, false_and, if_false]
theorem up_jne {M : bc_M} {k k' : Nat} {j j' f v : Int} (h : j' ≠ j) : bc_up M k j f v k' j' = M k' j' := by simp only [bc_up, h, and_false, if_false]
theorem up_at {M : bc_M} {k : Nat} {j f v : Int} : bc_up M k j f v k j = bc_u (M k j) f v := by simp only [bc_up, and_self, if_true]
theorem u_at {g : Int → Int} {f v : Int} : bc_u g f v f = v := by simp only [bc_u, if_true]
theorem u_ne {g : Int → Int} {f f' v : Int} (h : f' ≠ f) : bc_u g f v f' = g f' := by simp only [bc_u, h, if_false]
theorem up_v {M : bc_M} {k : Nat} {j f v f' : Int} : bc_up M k j f v k j f' = if f' = f then v else M k j f' := by rw [up_at]; rfl
theorem Fr.up {P : Nat → Int → Prop} {M : bc_M} {k : Nat} {j f v : Int} (h : P k j) : Fr P M (bc_up M k j f v) := fun k' j' hn => by
  by_cases hk : k' = k
  · by_cases hj : j' = j
    · subst hk; subst hj; exact absurd h hn
    · exact up_jne hj
  · exact up_kne hk
def at1 (k : Nat) (j : Int) : Nat → Int → Prop := fun k' j' => k' = k ∧ j' = j
/-- how many of the first n items lie on disk d -/
def sp_cd (dk : Int → Int) (d : Int) : Nat → Int
  | 0 => 0
  | n + 1 => sp_cd dk d n + if dk n = d then 1 else 0
theorem sp_cd_rng (dk : Int → Int) (d : Int) : ∀ n : Nat, 0 ≤ sp_cd dk d n ∧ sp_cd dk d n ≤ n
  | 0 => by simp [sp_cd]
  | n + 1 => by
    have := sp_cd_rng dk d n
    simp only [sp_cd]
    split <;> omega
theorem lp_cmA {G : bc_G} {post : bc_R → bc_M → Prop} {j z : Int} (hj : 0 ≤ j ∧ j < 2) : ∀ (n : Nat) (M : bc_M) (a : Int) (h1 : a + n = 4) (h2 : 0 ≤ a) (h3 : ∀ d, 0 ≤ d → d < a → M 22 j d = 0) (k : ∀ M' : bc_M, Fr (at1 22 j) M M' → (∀ d, 0 ≤ d → d < 4 → M' 22 j d = 0) → bc_W G RX4 cX4_countMembers 4 none 2 0 0 20 [some (vR G 17 j), some (vR G 6 z), some (vI 4), none] [] M' post), bc_W G RX4 cX4_countMembers 4 none 2 0 0 2 [some (vR G 17 j), some (vR G 6 z), some (vI a), none] [] M post := by
  intro n
  induction n with
  | zero =>
    intro M a h1 h2 h3 k
    refine wp_iload_n eX4_countMembers_2 rfl ?_
    refine wp_iconst eX4_countMembers_3 ?_
    refine wp_icmp_ge eX4_countMembers_4 (fun c4 => ?_) (fun c4 => ?_)
    · have ha : a = 4 := by omega
      subst ha
      exact k M Fr.rf (fun d h4 h5 => h3 d h4 h5)
    · omega
  | succ n ih =>
    intro M a h1 h2 h3 k
    refine wp_iload_n eX4_countMembers_2 rfl ?_
    refine wp_iconst eX4_countMembers_3 ?_
    refine wp_icmp_ge eX4_countMembers_4 (fun c4 => ?_) (fun c4 => ?_)
    · omega
    · refine wp_aload_n eX4_countMembers_7 rfl ?_
      refine gf_X4_42 eX4_countMembers_8 ?_
      refine wp_iload_n eX4_countMembers_11 rfl ?_
      refine wp_iconst eX4_countMembers_12 ?_
      refine as_22 eX4_countMembers_13 ?_
      refine inc_2 eX4_countMembers_14 ?_
      refine wp_goto eX4_countMembers_17 ?_
      refine ih (bc_up M 22 j a 0) (a + 1) (by omega) (by omega) (fun d h4 h5 => ?_) (fun M' hF h => k M' (Fr.tr (Fr.up ⟨rfl, rfl⟩) hF) h)
      rw [up_v]
      split
      · rfl
      · exact h3 d h4 (by omega)
theorem lp_cmB {G : bc_G} {post : bc_R → bc_M → Prop} {j z ni : Int} {dk : Int → Int} (hj : 0 ≤ j ∧ j < 2) (hz : 0 ≤ z ∧ z < 13) (hn : 0 ≤ ni ∧ ni ≤ 16) (hdk : ∀ i, 0 ≤ i → i < ni → 0 ≤ dk i ∧ dk i < 4) : ∀ (n : Nat) (M : bc_M) (i : Int) (x3 : Option Value) (h1 : i + n = ni) (h2 : 0 ≤ i) (e9 : M 9 z = dk) (e6 : M 6 z 3 = ni) (h3 : ∀ d, 0 ≤ d → d < 4 → M 22 j d = sp_cd dk d i.toNat) (k : ∀ M' : bc_M, Fr (at1 22 j) M M' → (∀ d, 0 ≤ d → d < 4 → M' 22 j d = sp_cd dk d ni.toNat) → post (.inr none) M'), bc_W G RX4 cX4_countMembers 4 none 2 0 0 22 [some (vR G 17 j), some (vR G 6 z), some (vI i), x3] [] M post := by
  intro n
  induction n with
  | zero =>
    intro M i x3 h1 h2 e9 e6 h3 k
    refine wp_iload_n eX4_countMembers_22 rfl ?_
    refine wp_aload_n eX4_countMembers_23 rfl ?_
    refine gf_X4_74 eX4_countMembers_24 ?_
    refine wp_icmp_ge eX4_countMembers_27 (fun c27 => ?_) (fun c27 => ?_)
    · refine wp_return eX4_countMembers_62 ?_
      exact k M Fr.rf (fun d h4 h5 => by rw [h3 d h4 h5, show i.toNat = ni.toNat by omega])
    · omega
  | succ n ih =>
    intro M i x3 h1 h2 e9 e6 h3 k
    refine wp_iload_n eX4_countMembers_22 rfl ?_
    refine wp_aload_n eX4_countMembers_23 rfl ?_
    refine gf_X4_74 eX4_countMembers_24 ?_
    refine wp_icmp_ge eX4_countMembers_27 (fun c27 => ?_) (fun c27 => ?_)
    · omega
    · refine wp_aload_n eX4_countMembers_30 rfl ?_
      refine gf_X4_77 eX4_countMembers_31 ?_
      refine wp_iload_n eX4_countMembers_34 rfl ?_
      refine al_9 eX4_countMembers_35 ?_
      refine ist_3 eX4_countMembers_36 ?_
      have hd := hdk i h2 (by omega)
      rw [e9]
      refine wp_iload_n eX4_countMembers_37 rfl ?_
      refine wp_if_lt eX4_countMembers_38 (fun c38 => ?_) (fun c38 => ?_)
      · omega
      · refine wp_iload_n eX4_countMembers_41 rfl ?_
        refine wp_iconst eX4_countMembers_42 ?_
        refine wp_icmp_ge eX4_countMembers_43 (fun c43 => ?_) (fun c43 => ?_)
        · omega
        · refine wp_aload_n eX4_countMembers_46 rfl ?_
          refine gf_X4_42 eX4_countMembers_47 ?_
          refine wp_iload_n eX4_countMembers_50 rfl ?_
          refine wp_dup2 eX4_countMembers_51 ?_
          refine al_22 eX4_countMembers_52 ?_
          refine wp_iconst eX4_countMembers_53 ?_
          refine wp_iadd eX4_countMembers_54 ?_
          refine as_22 eX4_countMembers_55 ?_
          refine inc_2 eX4_countMembers_56 ?_
          refine wp_goto eX4_countMembers_59 ?_
          refine ih (bc_up M 22 j (dk i) (M 22 j (dk i) + 1)) (i + 1) _ (by omega) (by omega) (by rw [up_kne (by decide)]; exact e9) (by rw [up_kne (by decide)]; exact e6) (fun d h4 h5 => ?_) (fun M' hF h => k M' (Fr.tr (Fr.up ⟨rfl, rfl⟩) hF) h)
          rw [up_v, show (i + 1).toNat = i.toNat + 1 by omega]
          simp only [sp_cd, Int.toNat_of_nonneg h2]
          split
          · rename_i hx
            rw [h3 _ hd.1 hd.2, hx, if_pos rfl]
          · rename_i hx
            rw [h3 d h4 h5, if_neg (fun q => hx q.symm)]
            omega
theorem ct_countMembers {G : bc_G} {M : bc_M} {post : bc_R → bc_M → Prop} {j z ni : Int} {dk : Int → Int} (hj : 0 ≤ j ∧ j < 2) (hz : 0 ≤ z ∧ z < 13) (hn : 0 ≤ ni ∧ ni ≤ 16) (hdk : ∀ i, 0 ≤ i → i < ni → 0 ≤ dk i ∧ dk i < 4) (e9 : M 9 z = dk) (e6 : M 6 z 3 = ni) (k : ∀ M' : bc_M, Fr (at1 22 j) M M' → (∀ d, 0 ≤ d → d < 4 → M' 22 j d = sp_cd dk d ni.toNat) → post (.inr none) M') : bc_Call G yX4_countMembers cX4_countMembers 4 none 2 0 [vR G 17 j, vR G 6 z] M post := by
  refine bc_enter (L := [some (vR G 17 j), some (vR G 6 z), none, none]) (by decide) rfl rfl ?_
  refine wp_iconst eX4_countMembers_0 ?_
  refine ist_2 eX4_countMembers_1 ?_
  refine lp_cmA hj 4 M 0 (by omega) (by omega) (fun d h1 h2 => by omega) (fun M1 hF h0 => ?_)
  refine wp_iconst eX4_countMembers_20 ?_
  refine ist_2 eX4_countMembers_21 ?_
  exact lp_cmB hj hz hn hdk ni.toNat M1 0 _ (by omega) (by omega) (by rw [hF 9 z (by simp [at1])]; exact e9) (by rw [hF 6 z (by simp [at1])]; exact e6) (fun d h4 h5 => by rw [h0 d h4 h5]; rfl) (fun M' hF2 h => k M' (hF.tr hF2) h)
def sp_cm (a b : Int) : Nat → Int → Int
  | 0, _ => a * b
  | n + 1, f => if a * f % b = 0 then a * f else sp_cm a b n (f + 1)
/-- rounds: d of the n disks from d on -/
def sp_rd (mem fr : Int → Int) : Nat → Int → Int → Int
  | 0, _, r => r
  | n + 1, d, r => sp_rd mem fr n (d + 1) (if 0 < mem d then sp_cm r (fr d) (fr d - 1).toNat 1 else r)
def sp_d60 (r : Int) : Prop := 0 < r ∧ r ≤ 60 ∧ 60 % r.toNat = 0
theorem sp_cm60_ : ∀ r : Fin 61, ∀ f : Fin 7, 0 < r.val → 60 % r.val = 0 → 0 < f.val → 0 < sp_cm r.val f.val (f.val - 1) 1 ∧ sp_cm r.val f.val (f.val - 1) 1 ≤ 60 ∧ 60 % (sp_cm r.val f.val (f.val - 1) 1).toNat = 0 ∧ sp_cm r.val f.val (f.val - 1) 1 % r.val = 0 ∧ sp_cm r.val f.val (f.val - 1) 1 % f.val = 0 := by decide +kernel
theorem sp_cm60 {r f : Int} (hr : sp_d60 r) (hf : 1 ≤ f ∧ f ≤ 6) : sp_d60 (sp_cm r f (f - 1).toNat 1) ∧ sp_cm r f (f - 1).toNat 1 % r = 0 ∧ sp_cm r f (f - 1).toNat 1 % f = 0 := by
  obtain ⟨h1, h2, h3⟩ := hr
  have := sp_cm60_ ⟨r.toNat, by omega⟩ ⟨f.toNat, by omega⟩ (by simp only; omega) (by simp only; omega) (by simp only; omega)
  simp only at this
  rw [show f.toNat - 1 = (f - 1).toNat by omega, Int.toNat_of_nonneg (by omega), Int.toNat_of_nonneg (by omega)] at this
  exact ⟨⟨this.1, this.2.1, this.2.2.1⟩, this.2.2.2.1, this.2.2.2.2⟩
theorem lp_cm {G : bc_G} {M : bc_M} {post : bc_R → bc_M → Prop} {a b : Int} (ha : 0 < a ∧ a ≤ 60) (hb : 1 ≤ b ∧ b ≤ 6) : ∀ (n : Nat) (f : Int) (h1 : f + n = b) (h2 : 1 ≤ f) (k : post (.inr (some (vI (sp_cm a b n f)))) M), bc_W G RX4 cX4_commonMultiple 3 (some .int) 1 0 0 2 [some (vI a), some (vI b), some (vI f)] [] M post := by
  intro n
  induction n with
  | zero =>
    intro f h1 h2 k
    refine wp_iload_n eX4_commonMultiple_2 rfl ?_
    refine wp_iload_n eX4_commonMultiple_3 rfl ?_
    refine wp_icmp_ge eX4_commonMultiple_4 (fun c4 => ?_) (fun c4 => ?_)
    · refine wp_iload_n eX4_commonMultiple_25 rfl ?_
      refine wp_iload_n eX4_commonMultiple_26 rfl ?_
      refine wp_imul eX4_commonMultiple_27 ?_
      refine wp_ireturn eX4_commonMultiple_28 ?_
      exact k
    · omega
  | succ n ih =>
    intro f h1 h2 k
    refine wp_iload_n eX4_commonMultiple_2 rfl ?_
    refine wp_iload_n eX4_commonMultiple_3 rfl ?_
    refine wp_icmp_ge eX4_commonMultiple_4 (fun c4 => ?_) (fun c4 => ?_)
    · omega
    · refine wp_iload_n eX4_commonMultiple_7 rfl ?_
      refine wp_iload_n eX4_commonMultiple_8 rfl ?_
      refine wp_imul eX4_commonMultiple_9 ?_
      have hbm := bm_nn (a := a) (b := f) (A := 60) (B := 6) (by omega) (by omega)
      have hmo := Int.emod_nonneg (a * f) (b := b) (by omega)
      have hml := Int.emod_lt_of_pos (a * f) (b := b) (by omega)
      refine wp_iload_n eX4_commonMultiple_10 rfl ?_
      refine wp_irem eX4_commonMultiple_11 ?_
      refine wp_if_ne eX4_commonMultiple_12 (fun c12 => ?_) (fun c12 => ?_)
      · have k2 : post (.inr (some (vI (sp_cm a b n (f + 1))))) M := by simpa only [sp_cm, if_neg c12] using k
        refine inc_2 eX4_commonMultiple_19 ?_
        refine wp_goto eX4_commonMultiple_22 ?_
        exact ih (f + 1) (by omega) (by omega) k2
      · have k : post (.inr (some (vI (a * f)))) M := by simpa only [sp_cm, if_pos (show a * f % b = 0 by omega)] using k
        refine wp_iload_n eX4_commonMultiple_15 rfl ?_
        refine wp_iload_n eX4_commonMultiple_16 rfl ?_
        refine wp_imul eX4_commonMultiple_17 ?_
        refine wp_ireturn eX4_commonMultiple_18 ?_
        exact k
theorem ct_commonMultiple {G : bc_G} {M : bc_M} {post : bc_R → bc_M → Prop} {a b : Int} (ha : 0 < a ∧ a ≤ 60) (hb : 1 ≤ b ∧ b ≤ 6) (k : post (.inr (some (vI (sp_cm a b (b - 1).toNat 1)))) M) : bc_Call G yX4_commonMultiple cX4_commonMultiple 3 (some .int) 1 0 [vI a, vI b] M post := by
  refine bc_enter (L := [some (vI a), some (vI b), none]) (by decide) rfl rfl ?_
  refine wp_iconst eX4_commonMultiple_0 ?_
  refine ist_2 eX4_commonMultiple_1 ?_
  exact lp_cm ha hb (b - 1).toNat 1 (by omega) (by omega) k
theorem lp_cr {G : bc_G} {post : bc_R → bc_M → Prop} {j z nd : Int} {mem fr : Int → Int} (hj : 0 ≤ j ∧ j < 2) (hz : 0 ≤ z ∧ z < 13) (hnd : 0 ≤ nd ∧ nd ≤ 4) (hfr : ∀ d, 0 ≤ d → d < nd → 1 ≤ fr d ∧ fr d ≤ 6) (hm : ∀ d, 0 ≤ d → d < nd → 0 ≤ mem d ∧ mem d ≤ 16) : ∀ (n : Nat) (M : bc_M) (d : Int) (h1 : d + n = nd) (h2 : 0 ≤ d) (h3 : sp_d60 (M 17 j 7)) (e7 : M 7 z = fr) (e6 : M 6 z 2 = nd) (e22 : ∀ d, 0 ≤ d → d < nd → M 22 j d = mem d) (k : ∀ M' : bc_M, Fr (at1 17 j) M M' → (∀ f, f ≠ 7 → M' 17 j f = M 17 j f) → M' 17 j 7 = sp_rd mem fr n d (M 17 j 7) → post (.inr none) M'), bc_W G RX4 cX4_countRounds 3 none 2 0 0 7 [some (vR G 17 j), some (vR G 6 z), some (vI d)] [] M post := by
  intro n
  induction n with
  | zero =>
    intro M d h1 h2 h3 e7 e6 e22 k
    refine wp_iload_n eX4_countRounds_7 rfl ?_
    refine wp_aload_n eX4_countRounds_8 rfl ?_
    refine gf_X4_80 eX4_countRounds_9 ?_
    refine wp_icmp_ge eX4_countRounds_12 (fun c12 => ?_) (fun c12 => ?_)
    · refine wp_return eX4_countRounds_47 ?_
      exact k M Fr.rf (fun _ _ => rfl) rfl
    · omega
  | succ n ih =>
    intro M d h1 h2 h3 e7 e6 e22 k
    refine wp_iload_n eX4_countRounds_7 rfl ?_
    refine wp_aload_n eX4_countRounds_8 rfl ?_
    refine gf_X4_80 eX4_countRounds_9 ?_
    refine wp_icmp_ge eX4_countRounds_12 (fun c12 => ?_) (fun c12 => ?_)
    · omega
    · refine wp_aload_n eX4_countRounds_15 rfl ?_
      refine gf_X4_42 eX4_countRounds_16 ?_
      refine wp_iload_n eX4_countRounds_19 rfl ?_
      refine al_22 eX4_countRounds_20 ?_
      have hm1 := hm d h2 (by omega)
      have he := e22 d h2 (by omega)
      refine wp_if_le eX4_countRounds_21 (fun c21 => ?_) (fun c21 => ?_)
      · refine inc_2 eX4_countRounds_41 ?_
        refine wp_goto eX4_countRounds_44 ?_
        refine ih M (d + 1) (by omega) (by omega) h3 e7 e6 e22 (fun M' hF h h7 => k M' hF h ?_)
        simp only [sp_rd]
        rw [if_neg (by omega), h7]
      · refine wp_aload_n eX4_countRounds_24 rfl ?_
        refine wp_aload_n eX4_countRounds_25 rfl ?_
        refine gf_X4_36 eX4_countRounds_26 ?_
        refine wp_aload_n eX4_countRounds_29 rfl ?_
        refine gf_X4_83 eX4_countRounds_30 ?_
        refine wp_iload_n eX4_countRounds_33 rfl ?_
        refine al_7 eX4_countRounds_34 ?_
        have hf1 := hfr d h2 (by omega)
        rw [e7]
        refine c_X4_86 eX4_countRounds_35 (ct_commonMultiple (by unfold sp_d60 at h3; omega) (by omega) ?_)
        have hcm := sp_cm60 h3 hf1
        refine pf_X4_36 eX4_countRounds_38 ?_
        refine inc_2 eX4_countRounds_41 ?_
        refine wp_goto eX4_countRounds_44 ?_
        refine ih (bc_up M 17 j 7 (sp_cm (M 17 j 7) (fr d) (fr d - 1).toNat 1)) (d + 1) (by omega) (by omega) (by rw [up_v, if_pos rfl]; exact hcm.1) (by rw [up_kne (by decide)]; exact e7) (by rw [up_kne (by decide)]; exact e6) (fun d h4 h5 => by rw [up_kne (by decide)]; exact e22 d h4 h5) (fun M' hF h h7 => k M' (Fr.tr (Fr.up ⟨rfl, rfl⟩) hF) (fun f hf => by rw [h f hf, up_v, if_neg hf]) ?_)
        simp only [sp_rd]
        rw [if_pos (by omega), h7, up_v, if_pos rfl]
theorem ct_countRounds {G : bc_G} {M : bc_M} {post : bc_R → bc_M → Prop} {j z nd : Int} {mem fr : Int → Int} (hj : 0 ≤ j ∧ j < 2) (hz : 0 ≤ z ∧ z < 13) (hnd : 0 ≤ nd ∧ nd ≤ 4) (hfr : ∀ d, 0 ≤ d → d < nd → 1 ≤ fr d ∧ fr d ≤ 6) (hm : ∀ d, 0 ≤ d → d < nd → 0 ≤ mem d ∧ mem d ≤ 16) (e7 : M 7 z = fr) (e6 : M 6 z 2 = nd) (e22 : ∀ d, 0 ≤ d → d < nd → M 22 j d = mem d) (k : ∀ M' : bc_M, Fr (at1 17 j) M M' → (∀ f, f ≠ 7 → M' 17 j f = M 17 j f) → M' 17 j 7 = sp_rd mem fr nd.toNat 0 1 → post (.inr none) M') : bc_Call G yX4_countRounds cX4_countRounds 3 none 2 0 [vR G 17 j, vR G 6 z] M post := by
  refine bc_enter (L := [some (vR G 17 j), some (vR G 6 z), none]) (by decide) rfl rfl ?_
  refine wp_aload_n eX4_countRounds_0 rfl ?_
  refine wp_iconst eX4_countRounds_1 ?_
  refine pf_X4_36 eX4_countRounds_2 ?_
  refine wp_iconst eX4_countRounds_5 ?_
  refine ist_2 eX4_countRounds_6 ?_
  refine lp_cr hj hz hnd hfr hm nd.toNat (bc_up M 17 j 7 1) 0 (by omega) (by omega) (by rw [up_v, if_pos rfl]; exact ⟨by decide, by decide, by decide⟩) (by rw [up_kne (by decide)]; exact e7) (by rw [up_kne (by decide)]; exact e6) (fun d h4 h5 => by rw [up_kne (by decide)]; exact e22 d h4 h5) (fun M' hF h h7 => k M' (Fr.tr (Fr.up ⟨rfl, rfl⟩) hF) (fun f hf => by rw [h f hf, up_v, if_neg hf]) (by rw [h7, up_v, if_pos rfl]))
