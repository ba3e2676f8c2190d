/-! clients and states -/
theorem pow_rng {i : Int} (hi : 0 ≤ i ∧ i < 31) : 0 ≤ ((2 ^ i.toNat : Nat) : Int) ∧ ((2 ^ i.toNat : Nat) : Int) ≤ 1073741824 := ⟨Int.natCast_nonneg _, Int.ofNat_le.mpr (Nat.pow_le_pow_right (n := 2) (by omega) (show i.toNat ≤ 30 by omega))⟩
theorem bs_clr {s i : Int} (hs : 0 ≤ s ∧ s < 2147483648) (hi : 0 ≤ i ∧ i < 31) (hb : bs s i = true) : bx_and s (bx_xor (bx_shl 1 i) (-1)) = s - ((2 ^ i.toNat : Nat) : Int) ∧ ((2 ^ i.toNat : Nat) : Int) ≤ s := by
  have hle : 2 ^ i.toNat ≤ s.toNat := by
    unfold bs at hb
    exact Nat.ge_two_pow_of_testBit hb
  have hp : 2 ^ i.toNat ≤ 2 ^ 30 := Nat.pow_le_pow_right (by omega) (by omega)
  refine ⟨?_, by omega⟩
  unfold bx_and bx_xor
  rw [Int32.ofInt_toInt, bs_shl1 hi]
  have key : Int32.ofInt s &&& (Int32.ofInt ((2 ^ i.toNat : Nat) : Int) ^^^ Int32.ofInt (-1)) = Int32.ofInt s - Int32.ofInt ((2 ^ i.toNat : Nat) : Int) := by
    have hpr := pow_rng hi
    rw [bs_of hs, bs_of (x := ((2 ^ i.toNat : Nat) : Int)) ⟨hpr.1, by omega⟩, Int.toNat_natCast]
    apply Int32.toBitVec_inj.1
    show BitVec.ofNat 32 s.toNat &&& (BitVec.ofNat 32 (2 ^ i.toNat) ^^^ BitVec.allOnes 32) = BitVec.ofNat 32 s.toNat - BitVec.ofNat 32 (2 ^ i.toNat)
    have hP : ∀ j, j < 32 → (BitVec.ofNat 32 (2 ^ i.toNat)).getLsbD j = decide (i.toNat = j) := by
      intro j hj
      rw [BitVec.getLsbD_ofNat, Nat.testBit_two_pow]
      simp [hj]
    have hSi : (BitVec.ofNat 32 s.toNat).getLsbD i.toNat = true := by
      rw [BitVec.getLsbD_ofNat]
      simp only [Bool.and_eq_true, decide_eq_true_eq]
      exact ⟨by omega, hb⟩
    have h1 : (BitVec.ofNat 32 s.toNat &&& (BitVec.ofNat 32 (2 ^ i.toNat) ^^^ BitVec.allOnes 32)) &&& BitVec.ofNat 32 (2 ^ i.toNat) = 0#32 := by
      apply BitVec.eq_of_getLsbD_eq
      intro j hj
      rw [BitVec.getLsbD_and, BitVec.getLsbD_and, BitVec.getLsbD_xor, hP j hj, BitVec.getLsbD_allOnes]
      by_cases h : i.toNat = j <;> simp [h, hj]
    have h2 : BitVec.ofNat 32 s.toNat = (BitVec.ofNat 32 s.toNat &&& (BitVec.ofNat 32 (2 ^ i.toNat) ^^^ BitVec.allOnes 32)) ||| BitVec.ofNat 32 (2 ^ i.toNat) := by
      apply BitVec.eq_of_getLsbD_eq
      intro j hj
      rw [BitVec.getLsbD_or, BitVec.getLsbD_and, BitVec.getLsbD_xor, hP j hj, BitVec.getLsbD_allOnes]
      by_cases h : i.toNat = j
      · subst h; simp [hSi]
      · simp [h, hj]
    have h3 := BitVec.add_eq_or_of_and_eq_zero _ _ h1
    rw [← h2] at h3
    exact BitVec.eq_sub_iff_add_eq.mpr h3
  have hpr := pow_rng hi
  rw [key, ← Int32.ofInt_sub, bc_toInt ⟨by omega, by omega⟩]
def CLP (a : Int) : Nat → Int → Prop := fun k' j' => (k' = 12 ∨ k' = 13 ∨ k' = 14) ∧ j' = a
def cliEq (M' : bc_M) (a : Int) (M : bc_M) (b : Int) : Prop := M' 13 a = M 13 b ∧ M' 14 a = M 14 b ∧ ∀ f, 0 ≤ f → f < 9 → M' 12 a f = M 12 b f
def setEq (M' : bc_M) (a : Int) (M : bc_M) (b : Int) : Prop := M' 7 a = M 7 b ∧ M' 8 a = M 8 b ∧ M' 9 a = M 9 b ∧ M' 10 a = M 10 b ∧ ∀ f, 0 ≤ f → f < 4 → M' 6 a f = M 6 b f
def stEq (M' : bc_M) (a : Int) (M : bc_M) (b : Int) : Prop := setEq M' a M b ∧ M' 5 a 1 = M 5 b 1 ∧ ∀ c, 0 ≤ c → c < M 5 b 1 → cliEq M' (4 * a + c) M (4 * b + c)
def STP (z : Int) : Nat → Int → Prop := fun k' j' => ((k' = 5 ∨ k' = 6 ∨ k' = 7 ∨ k' = 8 ∨ k' = 9 ∨ k' = 10) ∧ j' = z) ∨ ((k' = 12 ∨ k' = 13 ∨ k' = 14) ∧ 4 * z ≤ j' ∧ j' < 4 * z + 4)
set_option maxHeartbeats 1000000 in
theorem ct_cliCopy {G : bc_G} {M : bc_M} {post : bc_R → bc_M → Prop} {a b : Int} (ha : 0 ≤ a ∧ a < 50) (hb : 0 ≤ b ∧ b < 50) (hba : b ≠ a) (k : ∀ M' : bc_M, Fr (CLP a) M M' → cliEq M' a M b → post (.inr none) M') : bc_Call G yX0_copyFrom cX0_copyFrom 2 none 1 0 [vR G 12 a, vR G 12 b] M post := by
  refine bc_enter (L := [some (vR G 12 a), some (vR G 12 b)]) (by decide) rfl rfl ?_
  refine wp_aload_n eX0_copyFrom_0 rfl ?_
  refine wp_aload_n eX0_copyFrom_1 rfl ?_
  refine gf_X0_9 eX0_copyFrom_2 ?_
  refine pf_X0_9 eX0_copyFrom_5 ?_
  refine wp_aload_n eX0_copyFrom_8 rfl ?_
  refine wp_aload_n eX0_copyFrom_9 rfl ?_
  refine gf_X0_15 eX0_copyFrom_10 ?_
  refine pf_X0_15 eX0_copyFrom_13 ?_
  refine wp_aload_n eX0_copyFrom_16 rfl ?_
  refine wp_aload_n eX0_copyFrom_17 rfl ?_
  refine gf_X0_18 eX0_copyFrom_18 ?_
  refine pf_X0_18 eX0_copyFrom_21 ?_
  refine wp_aload_n eX0_copyFrom_24 rfl ?_
  refine wp_aload_n eX0_copyFrom_25 rfl ?_
  refine gf_X0_21 eX0_copyFrom_26 ?_
  refine pf_X0_21 eX0_copyFrom_29 ?_
  refine wp_aload_n eX0_copyFrom_32 rfl ?_
  refine wp_aload_n eX0_copyFrom_33 rfl ?_
  refine gf_X0_24 eX0_copyFrom_34 ?_
  refine pf_X0_24 eX0_copyFrom_37 ?_
  refine wp_aload_n eX0_copyFrom_40 rfl ?_
  refine wp_aload_n eX0_copyFrom_41 rfl ?_
  refine gf_X0_27 eX0_copyFrom_42 ?_
  refine pf_X0_27 eX0_copyFrom_45 ?_
  refine wp_aload_n eX0_copyFrom_48 rfl ?_
  refine wp_aload_n eX0_copyFrom_49 rfl ?_
  refine gf_X0_30 eX0_copyFrom_50 ?_
  refine pf_X0_30 eX0_copyFrom_53 ?_
  refine wp_aload_n eX0_copyFrom_56 rfl ?_
  refine wp_aload_n eX0_copyFrom_57 rfl ?_
  refine gf_X0_33 eX0_copyFrom_58 ?_
  refine pf_X0_33 eX0_copyFrom_61 ?_
  refine wp_aload_n eX0_copyFrom_64 rfl ?_
  refine wp_aload_n eX0_copyFrom_65 rfl ?_
  refine gf_X0_36 eX0_copyFrom_66 ?_
  refine pf_X0_36 eX0_copyFrom_69 ?_
  refine wp_aload_n eX0_copyFrom_72 rfl ?_
  refine gf_X0_39 eX0_copyFrom_73 ?_
  refine wp_iconst eX0_copyFrom_76 ?_
  refine wp_aload_n eX0_copyFrom_77 rfl ?_
  refine gf_X0_39 eX0_copyFrom_78 ?_
  refine wp_iconst eX0_copyFrom_81 ?_
  refine wp_bipush eX0_copyFrom_82 ?_
  refine cp_X0_46_13_13 eX0_copyFrom_84 ?_
  refine wp_aload_n eX0_copyFrom_87 rfl ?_
  refine gf_X0_43 eX0_copyFrom_88 ?_
  refine wp_iconst eX0_copyFrom_91 ?_
  refine wp_aload_n eX0_copyFrom_92 rfl ?_
  refine gf_X0_43 eX0_copyFrom_93 ?_
  refine wp_iconst eX0_copyFrom_96 ?_
  refine wp_bipush eX0_copyFrom_97 ?_
  refine cp_X0_46_14_14 eX0_copyFrom_99 ?_
  refine wp_return eX0_copyFrom_102 ?_
  refine k _ (fun k' j' hn => ?_) ⟨?_, ?_, fun f a9 b9 => ?_⟩
  · by_cases hjj : j' = a
    · have hk : k' ≠ 12 ∧ k' ≠ 13 ∧ k' ≠ 14 := by unfold CLP at hn; omega
      rw [row_kne hk.2.2, row_kne hk.2.1, up_kne hk.1, up_kne hk.1, up_kne hk.1, up_kne hk.1, up_kne hk.1, up_kne hk.1, up_kne hk.1, up_kne hk.1, up_kne hk.1]
    · rw [row_jne hjj, row_jne hjj, up_jne hjj, up_jne hjj, up_jne hjj, up_jne hjj, up_jne hjj, up_jne hjj, up_jne hjj, up_jne hjj, up_jne hjj]
  · rw [row_kne (by decide), row_at, up_kne (by decide), up_kne (by decide), up_kne (by decide), up_kne (by decide), up_kne (by decide), up_kne (by decide), up_kne (by decide), up_kne (by decide), up_kne (by decide)]
  · rw [row_at, row_kne (by decide), up_kne (by decide), up_kne (by decide), up_kne (by decide), up_kne (by decide), up_kne (by decide), up_kne (by decide), up_kne (by decide), up_kne (by decide), up_kne (by decide)]
  · rw [row_kne (by decide), row_kne (by decide)]
    simp only [up_jne hba, up_v]
    rcases (show f = 0 ∨ f = 1 ∨ f = 2 ∨ f = 3 ∨ f = 4 ∨ f = 5 ∨ f = 6 ∨ f = 7 ∨ f = 8 by omega) with rfl | rfl | rfl | rfl | rfl | rfl | rfl | rfl | rfl <;> simp
theorem lp_start {G : bc_G} {post : bc_R → bc_M → Prop} {a : Int} (ha : 0 ≤ a ∧ a < 50) {c q : Int} : ∀ (n : Nat) (M : bc_M) (i : Int) (h1 : i + n = 16) (h2 : 0 ≤ i) (h3 : ∀ x, 0 ≤ x → x < i → M 13 a x = 0 ∧ M 14 a x = 0) (k : ∀ M' : bc_M, Fr (fun k' j' => (k' = 13 ∨ k' = 14) ∧ j' = a) M M' → (∀ x, 0 ≤ x → x < 16 → M' 13 a x = 0 ∧ M' 14 a x = 0) → post (.inr none) M'), bc_W G RX0 cX0_start 4 none 1 0 0 47 [some (vR G 12 a), some (vI c), some (vI q), some (vI i)] [] M post := by
  intro n
  induction n with
  | zero =>
    intro M i h1 h2 h3 k
    refine wp_iload_n eX0_start_47 rfl ?_
    refine wp_bipush eX0_start_48 ?_
    refine wp_icmp_ge eX0_start_50 (fun c50 => ?_) (fun c50 => ?_)
    · refine wp_return eX0_start_73 ?_
      exact k M Fr.rf (fun x h4 h5 => h3 x h4 (by omega))
    · omega
  | succ n ih =>
    intro M i h1 h2 h3 k
    refine wp_iload_n eX0_start_47 rfl ?_
    refine wp_bipush eX0_start_48 ?_
    refine wp_icmp_ge eX0_start_50 (fun c50 => ?_) (fun c50 => ?_)
    · omega
    · refine wp_aload_n eX0_start_53 rfl ?_
      refine gf_X0_39 eX0_start_54 ?_
      refine wp_iload_n eX0_start_57 rfl ?_
      refine wp_iconst eX0_start_58 ?_
      refine as_13 eX0_start_59 ?_
      refine wp_aload_n eX0_start_60 rfl ?_
      refine gf_X0_43 eX0_start_61 ?_
      refine wp_iload_n eX0_start_64 rfl ?_
      refine wp_iconst eX0_start_65 ?_
      refine as_14 eX0_start_66 ?_
      refine inc_3 eX0_start_67 ?_
      refine wp_goto eX0_start_70 ?_
      refine ih _ (i + 1) (by omega) (by omega) (fun x h4 h5 => ?_) (fun M' hF h => k M' (Fr.tr (Fr.tr (Fr.up ⟨Or.inl rfl, rfl⟩) (Fr.up ⟨Or.inr rfl, rfl⟩)) hF) h)
      rw [up_kne (by decide), up_v, up_v, up_kne (by decide)]
      split
      · exact ⟨rfl, rfl⟩
      · exact h3 x h4 (by omega)
set_option maxHeartbeats 1000000 in
theorem ct_start {G : bc_G} {M : bc_M} {post : bc_R → bc_M → Prop} {a c q : Int} (ha : 0 ≤ a ∧ a < 50) (k : ∀ M' : bc_M, Fr (CLP a) M M' → M' 12 a 0 = c → M' 12 a 1 = q → (∀ f, 2 ≤ f → f < 9 → M' 12 a f = 0) → (∀ x, 0 ≤ x → x < 16 → M' 13 a x = 0 ∧ M' 14 a x = 0) → post (.inr none) M') : bc_Call G yX0_start cX0_start 4 none 1 0 [vR G 12 a, vI c, vI q] M post := by
  refine bc_enter (L := [some (vR G 12 a), some (vI c), some (vI q), none]) (by decide) rfl rfl ?_
  refine wp_aload_n eX0_start_0 rfl ?_
  refine wp_iload_n eX0_start_1 rfl ?_
  refine pf_X0_9 eX0_start_2 ?_
  refine wp_aload_n eX0_start_5 rfl ?_
  refine wp_iload_n eX0_start_6 rfl ?_
  refine pf_X0_15 eX0_start_7 ?_
  refine wp_aload_n eX0_start_10 rfl ?_
  refine wp_iconst eX0_start_11 ?_
  refine pf_X0_18 eX0_start_12 ?_
  refine wp_aload_n eX0_start_15 rfl ?_
  refine wp_iconst eX0_start_16 ?_
  refine pf_X0_21 eX0_start_17 ?_
  refine wp_aload_n eX0_start_20 rfl ?_
  refine wp_iconst eX0_start_21 ?_
  refine pf_X0_24 eX0_start_22 ?_
  refine wp_aload_n eX0_start_25 rfl ?_
  refine wp_iconst eX0_start_26 ?_
  refine pf_X0_27 eX0_start_27 ?_
  refine wp_aload_n eX0_start_30 rfl ?_
  refine wp_iconst eX0_start_31 ?_
  refine pf_X0_30 eX0_start_32 ?_
  refine wp_aload_n eX0_start_35 rfl ?_
  refine wp_iconst eX0_start_36 ?_
  refine pf_X0_33 eX0_start_37 ?_
  refine wp_aload_n eX0_start_40 rfl ?_
  refine wp_iconst eX0_start_41 ?_
  refine pf_X0_36 eX0_start_42 ?_
  refine wp_iconst eX0_start_45 ?_
  refine ist_3 eX0_start_46 ?_
  refine lp_start ha 16 _ 0 (by omega) (by omega) (fun x h1 h2 => by omega) (fun M' hF h => k M' (fun k' j' hn => ?_) ?_ ?_ (fun f h1 h2 => ?_) h)
  · unfold CLP at hn
    rw [hF k' j' (by omega)]
    by_cases hjj : j' = a
    · have hk : k' ≠ 12 := by omega
      rw [up_kne hk, up_kne hk, up_kne hk, up_kne hk, up_kne hk, up_kne hk, up_kne hk, up_kne hk, up_kne hk]
    · rw [up_jne hjj, up_jne hjj, up_jne hjj, up_jne hjj, up_jne hjj, up_jne hjj, up_jne hjj, up_jne hjj, up_jne hjj]
  · rw [hF 12 a (by omega)]
    simp [up_v]
  · rw [hF 12 a (by omega)]
    simp [up_v]
  · rw [hF 12 a (by omega)]
    simp only [up_v]
    rcases (show f = 2 ∨ f = 3 ∨ f = 4 ∨ f = 5 ∨ f = 6 ∨ f = 7 ∨ f = 8 by omega) with rfl | rfl | rfl | rfl | rfl | rfl | rfl <;> simp
theorem ct_clear {G : bc_G} {M : bc_M} {post : bc_R → bc_M → Prop} {z : Int} (hz : 0 ≤ z ∧ z < 12) (k : post (.inr none) (bc_up (bc_up (bc_up M 6 z 2 0) 6 z 3 0) 5 z 1 0)) : bc_Call G yX6_clear cX6_clear 1 none 1 0 [vR G 5 z] M post := by
  refine bc_enter (L := [some (vR G 5 z)]) (by decide) rfl rfl ?_
  refine wp_aload_n eX6_clear_0 rfl ?_
  refine gf_X6_12 eX6_clear_1 ?_
  refine wp_iconst eX6_clear_4 ?_
  refine pf_X6_29 eX6_clear_5 ?_
  refine wp_aload_n eX6_clear_8 rfl ?_
  refine gf_X6_12 eX6_clear_9 ?_
  refine wp_iconst eX6_clear_12 ?_
  refine pf_X6_32 eX6_clear_13 ?_
  refine wp_aload_n eX6_clear_16 rfl ?_
  refine wp_iconst eX6_clear_17 ?_
  refine pf_X6_18 eX6_clear_18 ?_
  refine wp_return eX6_clear_21 ?_
  exact k
theorem ct_addClient {G : bc_G} {M : bc_M} {post : bc_R → bc_M → Prop} {z c q : Int} (hz : 0 ≤ z ∧ z < 12) (hl : 0 ≤ M 5 z 1 ∧ M 5 z 1 < 4) (k : ∀ M' : bc_M, Fr (fun k' j' => (k' = 5 ∧ j' = z) ∨ CLP (4 * z + M 5 z 1) k' j') M M' → M' 5 z 1 = M 5 z 1 + 1 → M' 12 (4 * z + M 5 z 1) 0 = c → M' 12 (4 * z + M 5 z 1) 1 = q → (∀ f, 2 ≤ f → f < 9 → M' 12 (4 * z + M 5 z 1) f = 0) → (∀ x, 0 ≤ x → x < 16 → M' 13 (4 * z + M 5 z 1) x = 0 ∧ M' 14 (4 * z + M 5 z 1) x = 0) → post (.inr none) M') : bc_Call G yX6_addClient cX6_addClient 3 none 2 0 [vR G 5 z, vI c, vI q] M post := by
  refine bc_enter (L := [some (vR G 5 z), some (vI c), some (vI q)]) (by decide) rfl rfl ?_
  refine wp_aload_n eX6_addClient_0 rfl ?_
  refine gf_X6_18 eX6_addClient_1 ?_
  refine wp_iconst eX6_addClient_4 ?_
  refine wp_icmp_ge eX6_addClient_5 (fun c5 => ?_) (fun c5 => ?_)
  · omega
  · refine wp_aload_n eX6_addClient_8 rfl ?_
    refine gf_X6_24 eX6_addClient_9 ?_
    refine wp_aload_n eX6_addClient_12 rfl ?_
    refine gf_X6_18 eX6_addClient_13 ?_
    refine al_11 eX6_addClient_16 ?_
    refine wp_iload_n eX6_addClient_17 rfl ?_
    refine wp_iload_n eX6_addClient_18 rfl ?_
    refine c_X6_35 eX6_addClient_19 (ct_start (by omega) (fun M1 hF h0 h1 h2 h3 => ?_))
    have e5 : M1 5 z = M 5 z := hF 5 z (by unfold CLP; omega)
    refine wp_aload_n eX6_addClient_22 rfl ?_
    refine wp_dup eX6_addClient_23 ?_
    refine gf_X6_18 eX6_addClient_24 ?_
    refine wp_iconst eX6_addClient_27 ?_
    refine wp_iadd eX6_addClient_28 ?_
    rw [e5]
    refine pf_X6_18 eX6_addClient_29 ?_
    refine wp_return eX6_addClient_32 ?_
    refine k _ (fun k' j' hn => ?_) (by rw [up_v, if_pos rfl]) (by rw [up_kne (by decide)]; exact h0) (by rw [up_kne (by decide)]; exact h1) (fun f a b => by rw [up_kne (by decide)]; exact h2 f a b) (fun x a b => by rw [up_kne (by decide), up_kne (by decide)]; exact h3 x a b)
    by_cases hk : k' = 5 ∧ j' = z
    · exact absurd (Or.inl hk) hn
    · have : bc_up M1 5 z 1 (M 5 z 1 + 1) k' j' = M1 k' j' := by simp only [bc_up, if_neg hk]
      rw [this, hF k' j' (fun q => hn (Or.inr q))]
theorem lp_stCopy {G : bc_G} {post : bc_R → bc_M → Prop} {z y ls : Int} (hz : 0 ≤ z ∧ z < 12) (hy : 0 ≤ y ∧ y < 12) (hyz : y ≠ z) (hls : 0 ≤ ls ∧ ls ≤ 4) : ∀ (n : Nat) (M : bc_M) (c : Int) (h1 : c + n = ls) (h2 : 0 ≤ c) (e5 : M 5 z 1 = ls) (h3 : ∀ x, 0 ≤ x → x < c → cliEq M (4 * z + x) M (4 * y + x)) (k : ∀ M' : bc_M, Fr (fun k' j' => (k' = 12 ∨ k' = 13 ∨ k' = 14) ∧ 4 * z ≤ j' ∧ j' < 4 * z + 4) M M' → (∀ x, 0 ≤ x → x < ls → cliEq M' (4 * z + x) M (4 * y + x)) → post (.inr none) M'), bc_W G RX6 cX6_copyFrom 3 none 3 0 0 21 [some (vR G 5 z), some (vR G 5 y), some (vI c)] [] M post := by
  intro n
  induction n with
  | zero =>
    intro M c h1 h2 e5 h3 k
    refine wp_iload_n eX6_copyFrom_21 rfl ?_
    refine wp_aload_n eX6_copyFrom_22 rfl ?_
    refine gf_X6_18 eX6_copyFrom_23 ?_
    refine wp_icmp_ge eX6_copyFrom_26 (fun c26 => ?_) (fun c26 => ?_)
    · refine wp_return eX6_copyFrom_55 ?_
      exact k M Fr.rf (fun x h4 h5 => h3 x h4 (by omega))
    · omega
  | succ n ih =>
    intro M c h1 h2 e5 h3 k
    refine wp_iload_n eX6_copyFrom_21 rfl ?_
    refine wp_aload_n eX6_copyFrom_22 rfl ?_
    refine gf_X6_18 eX6_copyFrom_23 ?_
    refine wp_icmp_ge eX6_copyFrom_26 (fun c26 => ?_) (fun c26 => ?_)
    · omega
    · refine wp_iload_n eX6_copyFrom_29 rfl ?_
      refine wp_iconst eX6_copyFrom_30 ?_
      refine wp_icmp_ge eX6_copyFrom_31 (fun c31 => ?_) (fun c31 => ?_)
      · omega
      · refine wp_aload_n eX6_copyFrom_34 rfl ?_
        refine gf_X6_24 eX6_copyFrom_35 ?_
        refine wp_iload_n eX6_copyFrom_38 rfl ?_
        refine al_11 eX6_copyFrom_39 ?_
        refine wp_aload_n eX6_copyFrom_40 rfl ?_
        refine gf_X6_24 eX6_copyFrom_41 ?_
        refine wp_iload_n eX6_copyFrom_44 rfl ?_
        refine al_11 eX6_copyFrom_45 ?_
        refine c_X6_43 eX6_copyFrom_46 (ct_cliCopy (by omega) (by omega) (by omega) (fun M1 hF hE => ?_))
        refine inc_2 eX6_copyFrom_49 ?_
        refine wp_goto eX6_copyFrom_52 ?_
        have fy : ∀ (k' : Nat) (x : Int), 0 ≤ x → x < 4 → M1 k' (4 * y + x) = M k' (4 * y + x) := fun k' x a b => hF k' _ (by unfold CLP; omega)
        refine ih M1 (c + 1) (by omega) (by omega) (by rw [hF 5 z (by unfold CLP; omega)]; exact e5) (fun x h4 h5 => ?_) (fun M' hF2 h => k M' (Fr.tr (hF.mono (fun k' j' h => by unfold CLP at h; omega)) hF2) (fun x h4 h5 => ?_))
        · by_cases hx : x = c
          · subst hx
            obtain ⟨q1, q2, q3⟩ := hE
            exact ⟨by rw [q1, fy 13 x (by omega) (by omega)], by rw [q2, fy 14 x (by omega) (by omega)], fun f a b => by rw [q3 f a b, fy 12 x (by omega) (by omega)]⟩
          · obtain ⟨q1, q2, q3⟩ := h3 x h4 (by omega)
            have fz : ∀ k' : Nat, M1 k' (4 * z + x) = M k' (4 * z + x) := fun k' => hF k' _ (by unfold CLP; omega)
            exact ⟨by rw [fz, q1, fy 13 x (by omega) (by omega)], by rw [fz, q2, fy 14 x (by omega) (by omega)], fun f a b => by rw [fz, q3 f a b, fy 12 x (by omega) (by omega)]⟩
        · obtain ⟨q1, q2, q3⟩ := h x h4 h5
          exact ⟨by rw [q1, fy 13 x (by omega) (by omega)], by rw [q2, fy 14 x (by omega) (by omega)], fun f a b => by rw [q3 f a b, fy 12 x (by omega) (by omega)]⟩
theorem ct_stCopy {G : bc_G} {M : bc_M} {post : bc_R → bc_M → Prop} {z y ls : Int} (hz : 0 ≤ z ∧ z < 12) (hy : 0 ≤ y ∧ y < 12) (hyz : y ≠ z) (hls : 0 ≤ ls ∧ ls ≤ 4) (e5 : M 5 y 1 = ls) (k : ∀ M' : bc_M, Fr (STP z) M M' → stEq M' z M y → post (.inr none) M') : bc_Call G yX6_copyFrom cX6_copyFrom 3 none 3 0 [vR G 5 z, vR G 5 y] M post := by
  refine bc_enter (L := [some (vR G 5 z), some (vR G 5 y), none]) (by decide) rfl rfl ?_
  refine wp_aload_n eX6_copyFrom_0 rfl ?_
  refine gf_X6_12 eX6_copyFrom_1 ?_
  refine wp_aload_n eX6_copyFrom_4 rfl ?_
  refine gf_X6_12 eX6_copyFrom_5 ?_
  refine c_X6_39 eX6_copyFrom_8 (ct_setCopy (by omega) (by omega) hyz (fun M1 hF q1 q2 q3 q4 q5 => ?_))
  have fs : ∀ (k' : Nat) (j' : Int), ¬ ((k' = 6 ∨ k' = 7 ∨ k' = 8 ∨ k' = 9 ∨ k' = 10) ∧ j' = z) → M1 k' j' = M k' j' := hF
  refine wp_aload_n eX6_copyFrom_11 rfl ?_
  refine wp_aload_n eX6_copyFrom_12 rfl ?_
  refine gf_X6_18 eX6_copyFrom_13 ?_
  rw [fs 5 y (by omega)]
  refine pf_X6_18 eX6_copyFrom_16 ?_
  refine wp_iconst eX6_copyFrom_19 ?_
  refine ist_2 eX6_copyFrom_20 ?_
  refine lp_stCopy hz hy hyz hls ls.toNat (bc_up M1 5 z 1 (M 5 y 1)) 0 (by omega) (by omega) (by rw [up_v, if_pos rfl]; exact e5) (fun x a b => by omega) (fun M' hF2 h => k M' (fun k' j' hn => ?_) ⟨⟨?_, ?_, ?_, ?_, fun f a b => ?_⟩, ?_, fun c a b => ?_⟩)
  · unfold STP at hn
    rw [hF2 k' j' (by omega)]
    by_cases hk : k' = 5
    · subst hk
      rw [up_jne (by omega), fs 5 j' (by omega)]
    · rw [up_kne hk, fs k' j' (by omega)]
  · rw [hF2 7 z (by omega), up_kne (by decide)]; exact q1
  · rw [hF2 8 z (by omega), up_kne (by decide)]; exact q2
  · rw [hF2 9 z (by omega), up_kne (by decide)]; exact q3
  · rw [hF2 10 z (by omega), up_kne (by decide)]; exact q4
  · rw [hF2 6 z (by omega), up_kne (by decide)]; exact q5 f a b
  · rw [hF2 5 z (by omega), up_v, if_pos rfl]
  · obtain ⟨r1, r2, r3⟩ := h c a (by omega)
    exact ⟨by rw [r1, up_kne (by decide), fs 13 _ (by omega)], by rw [r2, up_kne (by decide), fs 14 _ (by omega)], fun f a b => by rw [r3 f a b, up_kne (by decide), fs 12 _ (by omega)]⟩
