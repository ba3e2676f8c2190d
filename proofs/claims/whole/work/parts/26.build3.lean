def sp_m (dk : Int → Int) (ni d : Int) : Int := sp_cd dk d ni.toNat
def sp_N (dk fr : Int → Int) (nd ni : Int) : Int := sp_rd (sp_m dk ni) fr nd.toNat 0 1
def sp_z (dk fr : Int → Int) (nd ni d : Int) : Int := sp_sz (sp_m dk ni) fr (sp_N dk fr nd ni) d
def sp_o (dk fr : Int → Int) (nd ni d : Int) : Int := sp_sum (sp_z dk fr nd ni) d.toNat
def sp_RL (dk fr : Int → Int) (nd ni : Int) : Int := sp_sum (sp_z dk fr nd ni) nd.toNat
def sp_S (dk fr : Int → Int) (nd ni : Int) : Int := max 1 (sp_N dk fr nd ni * sp_RL dk fr nd ni)
def sp_dx (dk fr : Int → Int) (nd ni i q : Int) : Int := sp_x (sp_cd dk (dk i) i.toNat) (sp_z dk fr nd ni (dk i)) (sp_N dk fr nd ni) (fr (dk i)) (sp_RL dk fr nd ni) (sp_o dk fr nd ni (dk i)) q
def sp_T (dk fr : Int → Int) (nd ni sg ln i q : Int) : Int := sp_tm sg (sp_S dk fr nd ni) ln (sp_dx dk fr nd ni i q)
/-- settings in order -/
def SV (dk fr : Int → Int) (nd ni sg ln : Int) : Prop := (1 ≤ nd ∧ nd ≤ 4) ∧ (1 ≤ ni ∧ ni ≤ 16) ∧ (0 ≤ sg ∧ sg ≤ 8) ∧ (1 ≤ ln ∧ ln ≤ 4) ∧ (∀ d, 0 ≤ d → d < nd → 1 ≤ fr d ∧ fr d ≤ 6) ∧ ∀ i, 0 ≤ i → i < ni → 0 ≤ dk i ∧ dk i < nd
def BR (M : bc_M) (j : Int) (dk fr : Int → Int) (nd ni sg ln : Int) : Prop := M 17 j 0 = sp_S dk fr nd ni + sg * ln ∧ M 17 j 1 = sp_S dk fr nd ni ∧ M 17 j 2 = sg ∧ M 17 j 3 = ln ∧ (∀ k, 0 ≤ k → k < sg → M 18 j k = k * sp_S dk fr nd ni / sg + k * ln) ∧ ∀ i, 0 ≤ i → i < ni → M 19 j i = fr (dk i) ∧ ∀ q, 0 ≤ q → q < fr (dk i) → M 21 (16 * j + i) q = sp_T dk fr nd ni sg ln i q
theorem mod_tr {a b c : Int} (h1 : a % b = 0) (h2 : b % c = 0) : a % c = 0 := Int.emod_eq_zero_of_dvd (Int.dvd_trans (Int.dvd_of_emod_eq_zero h2) (Int.dvd_of_emod_eq_zero h1))
theorem sp_rd_div {mem fr : Int → Int} : ∀ (n : Nat) (d r : Int), sp_d60 r → (∀ d', d ≤ d' → d' < d + n → 1 ≤ fr d' ∧ fr d' ≤ 6) → sp_d60 (sp_rd mem fr n d r) ∧ sp_rd mem fr n d r % r = 0 ∧ ∀ d', d ≤ d' → d' < d + n → 0 < mem d' → sp_rd mem fr n d r % fr d' = 0
  | 0, d, r, hr, _ => ⟨hr, Int.emod_self, fun d' h1 h2 => by omega⟩
  | n + 1, d, r, hr, h => by
    simp only [sp_rd]
    have hf := h d (by omega) (by omega)
    split
    · have hc := sp_cm60 hr hf
      obtain ⟨i1, i2, i3⟩ := sp_rd_div (mem := mem) n (d + 1) _ hc.1 (fun d' h1 h2 => h d' (by omega) (by omega))
      refine ⟨i1, mod_tr i2 hc.2.1, fun d' h1 h2 hm => ?_⟩
      by_cases hd : d' = d
      · subst hd; exact mod_tr i2 hc.2.2
      · exact i3 d' (by omega) (by omega) hm
    · obtain ⟨i1, i2, i3⟩ := sp_rd_div (mem := mem) n (d + 1) _ hr (fun d' h1 h2 => h d' (by omega) (by omega))
      refine ⟨i1, i2, fun d' h1 h2 hm => ?_⟩
      by_cases hd : d' = d
      · subst hd; omega
      · exact i3 d' (by omega) (by omega) hm
theorem sp_cd_pos {dk : Int → Int} : ∀ (n : Nat) (i : Int), 0 ≤ i → i < n → 1 ≤ sp_cd dk (dk i) n
  | 0, i, h0, h1 => by omega
  | n + 1, i, h0, h1 => by
    simp only [sp_cd]
    by_cases hi : i = n
    · subst hi
      have := sp_cd_rng dk (dk n) n
      rw [if_pos rfl]; omega
    · have := sp_cd_pos (dk := dk) n i h0 (by omega)
      split <;> omega
theorem sp_sum_rng {f : Int → Int} {B : Int} : ∀ n : Nat, (∀ d : Int, 0 ≤ d → d < n → 0 ≤ f d ∧ f d ≤ B) → 0 ≤ sp_sum f n ∧ sp_sum f n ≤ n * B
  | 0, _ => by simp [sp_sum]
  | n + 1, h => by
    have h1 := sp_sum_rng n (fun d a b => h d a (by omega))
    have h2 := h n (by omega) (by omega)
    simp only [sp_sum]
    have h3 : ((n + 1 : Nat) : Int) * B = n * B + B := by rw [Int.natCast_add, Int.add_mul]; simp
    omega
section SVL
variable {dk fr : Int → Int} {nd ni sg ln : Int}
theorem sp_m_rng (h : SV dk fr nd ni sg ln) (d : Int) : 0 ≤ sp_m dk ni d ∧ sp_m dk ni d ≤ 16 := by
  have := sp_cd_rng dk d ni.toNat
  have := h.2.1
  unfold sp_m
  omega
theorem sp_N60 (h : SV dk fr nd ni sg ln) : sp_d60 (sp_N dk fr nd ni) ∧ ∀ d, 0 ≤ d → d < nd → 0 < sp_m dk ni d → sp_N dk fr nd ni % fr d = 0 := by
  have := sp_rd_div (mem := sp_m dk ni) (fr := fr) nd.toNat 0 1 ⟨by decide, by decide, by decide⟩ (fun d' h1 h2 => h.2.2.2.2.1 d' h1 (by have := h.1; omega))
  exact ⟨this.1, fun d h1 h2 hm => this.2.2 d h1 (by have := h.1; omega) hm⟩
theorem sp_z_rng (h : SV dk fr nd ni sg ln) (d : Int) : 0 ≤ sp_z dk fr nd ni d ∧ sp_z dk fr nd ni d ≤ 16 := sp_sz_rng (sp_m_rng h d)
theorem sp_cnt1 (h : SV dk fr nd ni sg ln) {d : Int} (hd : 0 ≤ d ∧ d < nd) (hm : 0 < sp_m dk ni d) : 1 ≤ sp_N dk fr nd ni / fr d ∧ fr d * (sp_N dk fr nd ni / fr d) = sp_N dk fr nd ni := by
  obtain ⟨h1, h2⟩ := sp_N60 h
  have h3 := h2 d hd.1 hd.2 hm
  have h4 := h.2.2.2.2.1 d hd.1 hd.2
  have h5 := Int.mul_ediv_add_emod (sp_N dk fr nd ni) (fr d)
  rw [h3, Int.add_zero] at h5
  refine ⟨?_, h5⟩
  have h6 := Int.ediv_nonneg (a := sp_N dk fr nd ni) (b := fr d) (by have := h1.1; omega) (by omega)
  rcases Int.lt_or_le 0 (sp_N dk fr nd ni / fr d) with q | q
  · omega
  · have : sp_N dk fr nd ni / fr d = 0 := by omega
    rw [this, Int.mul_zero] at h5
    have := h1.1
    omega
theorem sp_z_used (h : SV dk fr nd ni sg ln) {d : Int} (hd : 0 ≤ d ∧ d < nd) (hm : 0 < sp_m dk ni d) : sp_z dk fr nd ni d = (sp_m dk ni d + sp_N dk fr nd ni / fr d - 1) / (sp_N dk fr nd ni / fr d) ∧ 1 ≤ sp_z dk fr nd ni d := by
  have h1 := (sp_cnt1 h hd hm).1
  have e : sp_z dk fr nd ni d = (sp_m dk ni d + sp_N dk fr nd ni / fr d - 1) / (sp_N dk fr nd ni / fr d) := by
    unfold sp_z sp_sz; rw [if_pos ⟨hm, by omega⟩]
  refine ⟨e, ?_⟩
  rw [e]
  exact Int.le_ediv_of_mul_le (by omega) (by omega)
theorem sp_m_item (h : SV dk fr nd ni sg ln) {i : Int} (hi : 0 ≤ i ∧ i < ni) : 0 < sp_m dk ni (dk i) := by
  have := sp_cd_pos (dk := dk) ni.toNat i hi.1 (by omega)
  unfold sp_m
  omega
theorem sp_o_rng (h : SV dk fr nd ni sg ln) {d : Int} (hd : 0 ≤ d ∧ d ≤ 4) : 0 ≤ sp_o dk fr nd ni d ∧ sp_o dk fr nd ni d ≤ 64 := by
  have := sp_sum_rng (f := sp_z dk fr nd ni) (B := 16) d.toNat (fun d _ _ => sp_z_rng h d)
  unfold sp_o
  omega
theorem sp_RL_rng (h : SV dk fr nd ni sg ln) : 0 ≤ sp_RL dk fr nd ni ∧ sp_RL dk fr nd ni ≤ 64 := by
  have := sp_sum_rng (f := sp_z dk fr nd ni) (B := 16) nd.toNat (fun d _ _ => sp_z_rng h d)
  have := h.1
  unfold sp_RL
  omega
theorem sp_S_rng0 (h : SV dk fr nd ni sg ln) : 1 ≤ sp_S dk fr nd ni ∧ sp_S dk fr nd ni ≤ 10000 := by
  have h1 := sp_RL_rng h
  have h2 := (sp_N60 h).1
  have h3 := bm_nn (a := sp_N dk fr nd ni) (b := sp_RL dk fr nd ni) (A := 60) (B := 64) (by have := h2.1; have := h2.2.1; omega) h1
  unfold sp_S
  omega
end SVL
theorem lp_pis {G : bc_G} {post : bc_R → bc_M → Prop} {j z nd ni sg ln : Int} {dk fr : Int → Int} (hj : 0 ≤ j ∧ j < 2) (hz : 0 ≤ z ∧ z < 13) (hV : SV dk fr nd ni sg ln) : ∀ (n : Nat) (M : bc_M) (i : Int) (x3 : Option Value) (h1 : i + 1 = n) (hin : i < ni) (e9 : M 9 z = dk) (e7 : M 7 z = fr) (e1 : M 17 j 1 = sp_S dk fr nd ni) (e2 : M 17 j 2 = sg) (e3 : M 17 j 3 = ln) (e8 : M 17 j 8 = sp_RL dk fr nd ni) (eb : M 17 j 7 = sp_N dk fr nd ni) (e23 : ∀ d, 0 ≤ d → d < nd → M 23 j d = sp_z dk fr nd ni d ∧ M 24 j d = sp_o dk fr nd ni d) (h22 : ∀ d, 0 ≤ d → d < 4 → M 22 j d = sp_cd dk d n) (h19p : ∀ i, (n : Int) ≤ i → i < ni → M 19 j i = fr (dk i) ∧ ∀ q, 0 ≤ q → q < fr (dk i) → M 21 (16 * j + i) q = sp_T dk fr nd ni sg ln i q) (k : (∀ M' : bc_M, Fr (fun k' j' => ((k' = 19 ∨ k' = 22) ∧ j' = j) ∨ (k' = 21 ∧ 16 * j ≤ j' ∧ j' < 16 * j + 16)) M M' → (∀ i, 0 ≤ i → i < ni → M' 19 j i = fr (dk i) ∧ ∀ q, 0 ≤ q → q < fr (dk i) → M' 21 (16 * j + i) q = sp_T dk fr nd ni sg ln i q) → post (.inr none) M')), bc_W G RX4 cX4_placeItems 4 none 4 0 0 7 [some (vR G 17 j), some (vR G 6 z), some (vI i), x3] [] M post := by
  intro n
  induction n with
  | zero =>
    intro M i x3 h1 hin e9 e7 e1 e2 e3 e8 eb e23 h22 h19p k
    have hn16 := hV.2.1
    refine wp_iload_n eX4_placeItems_7 rfl ?_
    refine wp_if_lt eX4_placeItems_8 (fun c8 => ?_) (fun c8 => ?_)
    · refine wp_return eX4_placeItems_55 ?_
      exact k M Fr.rf (fun i h4 h5 => h19p i (by omega) h5)
    · omega
  | succ n ih =>
    intro M i x3 h1 hin e9 e7 e1 e2 e3 e8 eb e23 h22 h19p k
    have hn16 := hV.2.1
    refine wp_iload_n eX4_placeItems_7 rfl ?_
    refine wp_if_lt eX4_placeItems_8 (fun c8 => ?_) (fun c8 => ?_)
    · omega
    · refine wp_aload_n eX4_placeItems_11 rfl ?_
      refine gf_X4_77 eX4_placeItems_12 ?_
      refine wp_iload_n eX4_placeItems_15 rfl ?_
      refine al_9 eX4_placeItems_16 ?_
      refine ist_3 eX4_placeItems_17 ?_
      have hi : 0 ≤ i ∧ i < ni := by omega
      have hd := hV.2.2.2.2.2 i hi.1 hi.2
      have hnd := hV.1
      have hf := hV.2.2.2.2.1 (dk i) hd.1 hd.2
      have hmi := sp_m_item hV hi
      have hzu := sp_z_used hV hd hmi
      have hzr := sp_z_rng hV (dk i)
      have hor := sp_o_rng hV (d := dk i) (by omega)
      have hRr := sp_RL_rng hV
      have hSr := sp_S_rng0 hV
      have hNr := (sp_N60 hV).1
      have hNr1 := hNr.1
      have hNr2 := hNr.2.1
      have hrk := sp_cd_rng dk (dk i) i.toNat
      have hsg := hV.2.2.1
      have hcd : M 22 j (dk i) - 1 = sp_cd dk (dk i) i.toNat := by
        rw [h22 (dk i) hd.1 (by omega), show n + 1 = i.toNat + 1 by omega]
        simp only [sp_cd, Int.toNat_of_nonneg hi.1, if_true]
        omega
      rw [e9]
      refine wp_iload_n eX4_placeItems_18 rfl ?_
      refine wp_if_lt eX4_placeItems_19 (fun c19 => ?_) (fun c19 => ?_)
      · omega
      · refine wp_iload_n eX4_placeItems_22 rfl ?_
        refine wp_iconst eX4_placeItems_23 ?_
        refine wp_icmp_ge eX4_placeItems_24 (fun c24 => ?_) (fun c24 => ?_)
        · omega
        · refine wp_aload_n eX4_placeItems_27 rfl ?_
          refine gf_X4_42 eX4_placeItems_28 ?_
          refine wp_iload_n eX4_placeItems_31 rfl ?_
          refine wp_dup2 eX4_placeItems_32 ?_
          refine al_22 eX4_placeItems_33 ?_
          refine wp_iconst eX4_placeItems_34 ?_
          refine wp_isub eX4_placeItems_35 ?_
          refine as_22 eX4_placeItems_36 ?_
          rw [hcd]
          refine wp_aload_n eX4_placeItems_37 rfl ?_
          refine wp_iload_n eX4_placeItems_38 rfl ?_
          refine wp_iload_n eX4_placeItems_39 rfl ?_
          refine wp_aload_n eX4_placeItems_40 rfl ?_
          refine gf_X4_83 eX4_placeItems_41 ?_
          refine wp_iload_n eX4_placeItems_44 rfl ?_
          refine al_7 eX4_placeItems_45 ?_
          rw [up_kne (by decide), e7]
          refine c_X4_89 eX4_placeItems_46 (ct_placeItem (sg := sg) (S := sp_S dk fr nd ni) (ln := ln) (R := sp_RL dk fr nd ni) (a := sp_cd dk (dk i) i.toNat) (c := sp_z dk fr nd ni (dk i)) (b := sp_N dk fr nd ni) (o := sp_o dk fr nd ni (dk i)) hj (by omega) hf (by omega) (by omega) (by omega) hRr hor hsg (by omega) (by omega) (by rw [up_kne (by decide)]; exact e1) (by rw [up_kne (by decide)]; exact e2) (by rw [up_kne (by decide)]; exact e3) (by rw [up_kne (by decide)]; exact e8) (by rw [up_kne (by decide)]; exact (e23 _ hd.1 hd.2).1) (by rw [up_v, if_pos rfl]) (by rw [up_kne (by decide)]; exact (e23 _ hd.1 hd.2).2) (by rw [up_kne (by decide)]; exact eb) (fun M1 hF1 h19 h21 => ?_))
          have fr1 : ∀ (k' : Nat) (j' : Int), k' ≠ 19 → k' ≠ 21 → k' ≠ 22 → M1 k' j' = M k' j' := fun k' j' a b c => by rw [hF1 k' j' (by omega), up_kne c]
          refine inc_2 eX4_placeItems_49 ?_
          refine wp_goto eX4_placeItems_52 ?_
          refine ih M1 (i - 1) _ (by omega) (by omega) (by rw [fr1 9 z (by decide) (by decide) (by decide)]; exact e9) (by rw [fr1 7 z (by decide) (by decide) (by decide)]; exact e7) (by rw [fr1 17 j (by decide) (by decide) (by decide)]; exact e1) (by rw [fr1 17 j (by decide) (by decide) (by decide)]; exact e2) (by rw [fr1 17 j (by decide) (by decide) (by decide)]; exact e3) (by rw [fr1 17 j (by decide) (by decide) (by decide)]; exact e8) (by rw [fr1 17 j (by decide) (by decide) (by decide)]; exact eb) (fun d h4 h5 => by rw [fr1 23 j (by decide) (by decide) (by decide), fr1 24 j (by decide) (by decide) (by decide)]; exact e23 d h4 h5) (fun d h4 h5 => ?_) (fun i' h4 h5 => ?_) (fun M' hF h => k M' (Fr.tr (Fr.tr (Fr.up (Or.inl ⟨Or.inr rfl, rfl⟩)) (hF1.mono (fun k' j' h => by omega))) hF) h)
          · rw [hF1 22 j (by omega), up_v]
            by_cases hdd : d = dk i
            · rw [if_pos hdd, hdd, show n = i.toNat by omega]
            · rw [if_neg hdd, h22 d h4 h5, show n = i.toNat by omega]
              simp only [sp_cd, Int.toNat_of_nonneg hi.1, if_neg (fun q : dk i = d => hdd q.symm)]
              omega
          · by_cases hii : i' = i
            · subst hii
              refine ⟨by rw [h19, if_pos rfl], fun q h6 h7 => h21 q h6 h7⟩
            · have hold := h19p i' (by omega) h5
              refine ⟨by rw [h19, if_neg hii, up_kne (by decide)]; exact hold.1, fun q h6 h7 => ?_⟩
              rw [hF1 21 (16 * j + i') (by omega), up_kne (by decide)]
              exact hold.2 q h6 h7
theorem ct_placeItems {G : bc_G} {M : bc_M} {post : bc_R → bc_M → Prop} {j z nd ni sg ln : Int} {dk fr : Int → Int} (hj : 0 ≤ j ∧ j < 2) (hz : 0 ≤ z ∧ z < 13) (hV : SV dk fr nd ni sg ln) (e6 : M 6 z 3 = ni) (e9 : M 9 z = dk) (e7 : M 7 z = fr) (e1 : M 17 j 1 = sp_S dk fr nd ni) (e2 : M 17 j 2 = sg) (e3 : M 17 j 3 = ln) (e8 : M 17 j 8 = sp_RL dk fr nd ni) (eb : M 17 j 7 = sp_N dk fr nd ni) (e23 : ∀ d, 0 ≤ d → d < nd → M 23 j d = sp_z dk fr nd ni d ∧ M 24 j d = sp_o dk fr nd ni d) (h22 : ∀ d, 0 ≤ d → d < 4 → M 22 j d = sp_cd dk d ni.toNat) (k : (∀ M' : bc_M, Fr (fun k' j' => ((k' = 19 ∨ k' = 22) ∧ j' = j) ∨ (k' = 21 ∧ 16 * j ≤ j' ∧ j' < 16 * j + 16)) M M' → (∀ i, 0 ≤ i → i < ni → M' 19 j i = fr (dk i) ∧ ∀ q, 0 ≤ q → q < fr (dk i) → M' 21 (16 * j + i) q = sp_T dk fr nd ni sg ln i q) → post (.inr none) M')) : bc_Call G yX4_placeItems cX4_placeItems 4 none 4 0 [vR G 17 j, vR G 6 z] M post := by
  refine bc_enter (L := [some (vR G 17 j), some (vR G 6 z), none, none]) (by decide) rfl rfl ?_
  refine wp_aload_n eX4_placeItems_0 rfl ?_
  refine gf_X4_74 eX4_placeItems_1 ?_
  refine wp_iconst eX4_placeItems_4 ?_
  refine wp_isub eX4_placeItems_5 ?_
  rw [e6]
  refine ist_2 eX4_placeItems_6 ?_
  refine lp_pis hj hz hV ni.toNat M (ni - 1) _ (by have := hV.2.1; omega) (by omega) e9 e7 e1 e2 e3 e8 eb e23 h22 (fun i h4 h5 => by have := hV.2.1; omega) k
