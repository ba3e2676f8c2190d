def bpP (j : Int) : Nat → Int → Prop := fun k' j' => ((k' = 17 ∨ k' = 18 ∨ k' = 19 ∨ k' = 22 ∨ k' = 23 ∨ k' = 24) ∧ j' = j) ∨ (k' = 21 ∧ 16 * j ≤ j' ∧ j' < 16 * j + 16)
theorem lp_starts {G : bc_G} {post : bc_R → bc_M → Prop} {j z S sg ln : Int} (hj : 0 ≤ j ∧ j < 2) (hS : 1 ≤ S ∧ S ≤ 10000) (hg : 0 ≤ sg ∧ sg ≤ 8) : ∀ (n : Nat) (M : bc_M) (q : Int) (h1 : q + n = sg) (h2 : 0 ≤ q) (e1 : M 17 j 1 = S) (e2 : M 17 j 2 = sg) (e3 : M 17 j 3 = ln) (h3 : ∀ k, 0 ≤ k → k < q → M 18 j k = k * S / sg + k * ln) (k : ∀ M' : bc_M, Fr (at1 18 j) M M' → (∀ k, 0 ≤ k → k < sg → M' 18 j k = k * S / sg + k * ln) → bc_W G RX4 cX4_build 3 none 6 0 0 112 [some (vR G 17 j), some (vR G 6 z), some (vI sg)] [] M' post), bc_W G RX4 cX4_build 3 none 6 0 0 68 [some (vR G 17 j), some (vR G 6 z), some (vI q)] [] M post := by
  intro n
  induction n with
  | zero =>
    intro M q h1 h2 e1 e2 e3 h3 k
    refine wp_iload_n eX4_build_68 rfl ?_
    refine wp_aload_n eX4_build_69 rfl ?_
    refine gf_X4_18 eX4_build_70 ?_
    rw [e2]
    refine wp_icmp_ge eX4_build_73 (fun c73 => ?_) (fun c73 => ?_)
    · have hq : q = sg := by omega
      subst hq
      exact k M Fr.rf h3
    · omega
  | succ n ih =>
    intro M q h1 h2 e1 e2 e3 h3 k
    refine wp_iload_n eX4_build_68 rfl ?_
    refine wp_aload_n eX4_build_69 rfl ?_
    refine gf_X4_18 eX4_build_70 ?_
    rw [e2]
    refine wp_icmp_ge eX4_build_73 (fun c73 => ?_) (fun c73 => ?_)
    · omega
    · refine wp_iload_n eX4_build_76 rfl ?_
      refine wp_bipush eX4_build_77 ?_
      refine wp_icmp_ge eX4_build_79 (fun c79 => ?_) (fun c79 => ?_)
      · omega
      · refine wp_aload_n eX4_build_82 rfl ?_
        refine gf_X4_24 eX4_build_83 ?_
        refine wp_iload_n eX4_build_86 rfl ?_
        refine wp_iload_n eX4_build_87 rfl ?_
        refine wp_aload_n eX4_build_88 rfl ?_
        refine gf_X4_15 eX4_build_89 ?_
        rw [e1]
        refine wp_imul eX4_build_92 ?_
        refine wp_aload_n eX4_build_93 rfl ?_
        refine gf_X4_18 eX4_build_94 ?_
        rw [e2]
        have hbm := bm_nn (a := q) (b := S) (A := 8) (B := 10000) (by omega) (by omega)
        refine wp_idiv eX4_build_97 ?_
        refine wp_iload_n eX4_build_98 rfl ?_
        refine wp_aload_n eX4_build_99 rfl ?_
        refine gf_X4_21 eX4_build_100 ?_
        rw [e3]
        refine wp_imul eX4_build_103 ?_
        refine wp_iadd eX4_build_104 ?_
        refine as_18 eX4_build_105 ?_
        refine inc_2 eX4_build_106 ?_
        refine wp_goto eX4_build_109 ?_
        refine ih _ (q + 1) (by omega) (by omega) (by rw [up_kne (by decide)]; exact e1) (by rw [up_kne (by decide)]; exact e2) (by rw [up_kne (by decide)]; exact e3) (fun x h4 h5 => ?_) (fun M' hF h => k M' (Fr.tr (Fr.up ⟨rfl, rfl⟩) hF) h)
        rw [up_v]
        split
        · rename_i hx; rw [hx]
        · exact h3 x h4 (by omega)
set_option maxHeartbeats 1000000 in
theorem ct_build {G : bc_G} {M : bc_M} {post : bc_R → bc_M → Prop} {j z nd ni sg ln : Int} {dk fr : Int → Int} (hj : 0 ≤ j ∧ j < 2) (hz : 0 ≤ z ∧ z < 13) (hV : SV dk fr nd ni sg ln) (e9 : M 9 z = dk) (e7 : M 7 z = fr) (e60 : M 6 z 0 = sg) (e61 : M 6 z 1 = ln) (e62 : M 6 z 2 = nd) (e63 : M 6 z 3 = ni) (k : ∀ M' : bc_M, Fr (bpP j) M M' → BR M' j dk fr nd ni sg ln → post (.inr none) M') : bc_Call G yX4_build cX4_build 3 none 6 0 [vR G 17 j, vR G 6 z] M post := by
  obtain ⟨hnd, hni, hsg, hln, hfr, hdk⟩ := id hV
  have hN1 := (sp_N60 hV).1
  have hNa := hN1.1
  have hNb := hN1.2.1
  have hRr := sp_RL_rng hV
  have hSr := sp_S_rng0 hV
  refine bc_enter (L := [some (vR G 17 j), some (vR G 6 z), none]) (by decide) rfl rfl ?_
  refine wp_aload_n eX4_build_0 rfl ?_
  refine wp_aload_n eX4_build_1 rfl ?_
  refine c_X4_51 eX4_build_2 (ct_countMembers hj hz (by omega) (fun i a b => by have := hdk i a b; omega) e9 e63 (fun M1 hF1 h22 => ?_))
  have f1 : ∀ (k' : Nat) (j' : Int), k' ≠ 22 → M1 k' j' = M k' j' := fun k' j' a => hF1 k' j' (fun q => a q.1)
  refine wp_aload_n eX4_build_5 rfl ?_
  refine wp_aload_n eX4_build_6 rfl ?_
  refine c_X4_55 eX4_build_7 (ct_countRounds (mem := sp_m dk ni) hj hz (by omega) hfr (fun d _ _ => sp_m_rng hV d) (by rw [f1 7 z (by decide)]; exact e7) (by rw [f1 6 z (by decide)]; exact e62) (fun d a b => h22 d a (by omega)) (fun M2 hF2 h17 hr7 => ?_))
  have f2 : ∀ (k' : Nat) (j' : Int), k' ≠ 17 → k' ≠ 22 → M2 k' j' = M k' j' := fun k' j' a b => by rw [hF2 k' j' (fun q => a q.1), f1 k' j' b]
  have hr7 : M2 17 j 7 = sp_N dk fr nd ni := hr7
  have h22b : ∀ d, 0 ≤ d → d < 4 → M2 22 j d = sp_cd dk d ni.toNat := fun d a b => by rw [hF2 22 j (by simp [at1])]; exact h22 d a b
  refine wp_aload_n eX4_build_10 rfl ?_
  refine wp_aload_n eX4_build_11 rfl ?_
  refine c_X4_58 eX4_build_12 (ct_cutChunks (mem := sp_m dk ni) (r := sp_N dk fr nd ni) hj hz (by omega) (fun d _ _ => sp_m_rng hV d) hfr ⟨hN1.1, hN1.2.1⟩ (fun d a b => h22b d a (by omega)) (by rw [f2 7 z (by decide) (by decide)]; exact e7) (by rw [f2 6 z (by decide) (by decide)]; exact e62) hr7 (fun M3 hF3 h17b h8 h23 => ?_))
  have f3 : ∀ (k' : Nat) (j' : Int), k' ≠ 17 → k' ≠ 22 → k' ≠ 23 → k' ≠ 24 → M3 k' j' = M k' j' := fun k' j' a b c d => by rw [hF3 k' j' (by omega), f2 k' j' a b]
  have h22c : ∀ d, 0 ≤ d → d < 4 → M3 22 j d = sp_cd dk d ni.toNat := fun d a b => by rw [hF3 22 j (by omega)]; exact h22b d a b
  have hr7c : M3 17 j 7 = sp_N dk fr nd ni := by rw [h17b 7 (by decide)]; exact hr7
  have h8 : M3 17 j 8 = sp_RL dk fr nd ni := h8
  refine wp_aload_n eX4_build_15 rfl ?_
  refine wp_iconst eX4_build_16 ?_
  refine wp_aload_n eX4_build_17 rfl ?_
  refine gf_X4_36 eX4_build_18 ?_
  refine wp_aload_n eX4_build_21 rfl ?_
  refine gf_X4_39 eX4_build_22 ?_
  refine wp_imul eX4_build_25 ?_
  rw [hr7c, h8]
  have hbm := bm_nn (a := sp_N dk fr nd ni) (b := sp_RL dk fr nd ni) (A := 60) (B := 64) ⟨by omega, by omega⟩ hRr
  refine c_X4_61 eX4_build_26 (ct_max ?_)
  refine pf_X4_15 eX4_build_29 ?_
  refine wp_aload_n eX4_build_32 rfl ?_
  refine wp_aload_n eX4_build_33 rfl ?_
  refine gf_X4_67 eX4_build_34 ?_
  rw [show max 1 (sp_N dk fr nd ni * sp_RL dk fr nd ni) = sp_S dk fr nd ni from rfl, up_kne (by decide), f3 6 z (by decide) (by decide) (by decide) (by decide), e60]
  refine pf_X4_18 eX4_build_37 ?_
  refine wp_aload_n eX4_build_40 rfl ?_
  refine wp_aload_n eX4_build_41 rfl ?_
  refine gf_X4_70 eX4_build_42 ?_
  rw [up_kne (by decide), up_kne (by decide), f3 6 z (by decide) (by decide) (by decide) (by decide), e61]
  refine pf_X4_21 eX4_build_45 ?_
  refine wp_aload_n eX4_build_48 rfl ?_
  refine wp_aload_n eX4_build_49 rfl ?_
  refine gf_X4_15 eX4_build_50 ?_
  refine wp_aload_n eX4_build_53 rfl ?_
  refine gf_X4_18 eX4_build_54 ?_
  refine wp_aload_n eX4_build_57 rfl ?_
  refine gf_X4_21 eX4_build_58 ?_
  simp only [up_at, u_at, u_ne (show (1 : Int) ≠ 3 by decide), u_ne (show (1 : Int) ≠ 2 by decide), u_ne (show (2 : Int) ≠ 3 by decide)]
  refine wp_imul eX4_build_61 ?_
  refine wp_iadd eX4_build_62 ?_
  refine pf_X4_9 eX4_build_63 ?_
  refine wp_iconst eX4_build_66 ?_
  refine ist_2 eX4_build_67 ?_
  obtain ⟨M4, hM4⟩ : ∃ M4, M4 = bc_up (bc_up (bc_up (bc_up M3 17 j 1 (sp_S dk fr nd ni)) 17 j 2 sg) 17 j 3 ln) 17 j 0 (sp_S dk fr nd ni + sg * ln) := ⟨_, rfl⟩
  have w0 : M4 17 j 0 = sp_S dk fr nd ni + sg * ln := by rw [hM4]; simp only [up_at, u_at, u_ne (show (1 : Int) ≠ 0 by decide), u_ne (show (1 : Int) ≠ 3 by decide), u_ne (show (1 : Int) ≠ 2 by decide), u_ne (show (2 : Int) ≠ 0 by decide), u_ne (show (2 : Int) ≠ 3 by decide), u_ne (show (3 : Int) ≠ 0 by decide), u_ne (show (7 : Int) ≠ 0 by decide), u_ne (show (7 : Int) ≠ 1 by decide), u_ne (show (7 : Int) ≠ 2 by decide), u_ne (show (7 : Int) ≠ 3 by decide), u_ne (show (8 : Int) ≠ 0 by decide), u_ne (show (8 : Int) ≠ 1 by decide), u_ne (show (8 : Int) ≠ 2 by decide), u_ne (show (8 : Int) ≠ 3 by decide)]
  have w1 : M4 17 j 1 = sp_S dk fr nd ni := by rw [hM4]; simp only [up_at, u_at, u_ne (show (1 : Int) ≠ 0 by decide), u_ne (show (1 : Int) ≠ 3 by decide), u_ne (show (1 : Int) ≠ 2 by decide), u_ne (show (2 : Int) ≠ 0 by decide), u_ne (show (2 : Int) ≠ 3 by decide), u_ne (show (3 : Int) ≠ 0 by decide), u_ne (show (7 : Int) ≠ 0 by decide), u_ne (show (7 : Int) ≠ 1 by decide), u_ne (show (7 : Int) ≠ 2 by decide), u_ne (show (7 : Int) ≠ 3 by decide), u_ne (show (8 : Int) ≠ 0 by decide), u_ne (show (8 : Int) ≠ 1 by decide), u_ne (show (8 : Int) ≠ 2 by decide), u_ne (show (8 : Int) ≠ 3 by decide)]
  have w2 : M4 17 j 2 = sg := by rw [hM4]; simp only [up_at, u_at, u_ne (show (1 : Int) ≠ 0 by decide), u_ne (show (1 : Int) ≠ 3 by decide), u_ne (show (1 : Int) ≠ 2 by decide), u_ne (show (2 : Int) ≠ 0 by decide), u_ne (show (2 : Int) ≠ 3 by decide), u_ne (show (3 : Int) ≠ 0 by decide), u_ne (show (7 : Int) ≠ 0 by decide), u_ne (show (7 : Int) ≠ 1 by decide), u_ne (show (7 : Int) ≠ 2 by decide), u_ne (show (7 : Int) ≠ 3 by decide), u_ne (show (8 : Int) ≠ 0 by decide), u_ne (show (8 : Int) ≠ 1 by decide), u_ne (show (8 : Int) ≠ 2 by decide), u_ne (show (8 : Int) ≠ 3 by decide)]
  have w3 : M4 17 j 3 = ln := by rw [hM4]; simp only [up_at, u_at, u_ne (show (1 : Int) ≠ 0 by decide), u_ne (show (1 : Int) ≠ 3 by decide), u_ne (show (1 : Int) ≠ 2 by decide), u_ne (show (2 : Int) ≠ 0 by decide), u_ne (show (2 : Int) ≠ 3 by decide), u_ne (show (3 : Int) ≠ 0 by decide), u_ne (show (7 : Int) ≠ 0 by decide), u_ne (show (7 : Int) ≠ 1 by decide), u_ne (show (7 : Int) ≠ 2 by decide), u_ne (show (7 : Int) ≠ 3 by decide), u_ne (show (8 : Int) ≠ 0 by decide), u_ne (show (8 : Int) ≠ 1 by decide), u_ne (show (8 : Int) ≠ 2 by decide), u_ne (show (8 : Int) ≠ 3 by decide)]
  have w7 : M4 17 j 7 = sp_N dk fr nd ni := by rw [hM4]; simp only [up_at, u_at, u_ne (show (1 : Int) ≠ 0 by decide), u_ne (show (1 : Int) ≠ 3 by decide), u_ne (show (1 : Int) ≠ 2 by decide), u_ne (show (2 : Int) ≠ 0 by decide), u_ne (show (2 : Int) ≠ 3 by decide), u_ne (show (3 : Int) ≠ 0 by decide), u_ne (show (7 : Int) ≠ 0 by decide), u_ne (show (7 : Int) ≠ 1 by decide), u_ne (show (7 : Int) ≠ 2 by decide), u_ne (show (7 : Int) ≠ 3 by decide), u_ne (show (8 : Int) ≠ 0 by decide), u_ne (show (8 : Int) ≠ 1 by decide), u_ne (show (8 : Int) ≠ 2 by decide), u_ne (show (8 : Int) ≠ 3 by decide)]; exact hr7c
  have w8 : M4 17 j 8 = sp_RL dk fr nd ni := by rw [hM4]; simp only [up_at, u_at, u_ne (show (1 : Int) ≠ 0 by decide), u_ne (show (1 : Int) ≠ 3 by decide), u_ne (show (1 : Int) ≠ 2 by decide), u_ne (show (2 : Int) ≠ 0 by decide), u_ne (show (2 : Int) ≠ 3 by decide), u_ne (show (3 : Int) ≠ 0 by decide), u_ne (show (7 : Int) ≠ 0 by decide), u_ne (show (7 : Int) ≠ 1 by decide), u_ne (show (7 : Int) ≠ 2 by decide), u_ne (show (7 : Int) ≠ 3 by decide), u_ne (show (8 : Int) ≠ 0 by decide), u_ne (show (8 : Int) ≠ 1 by decide), u_ne (show (8 : Int) ≠ 2 by decide), u_ne (show (8 : Int) ≠ 3 by decide)]; exact h8
  rw [← hM4]
  refine lp_starts hj hSr hsg sg.toNat M4 0 (by omega) (by omega) w1 w2 w3 (fun q a b => by omega) (fun M5 hF5 hst => ?_)
  have g4 : ∀ (k' : Nat) (j' : Int), k' ≠ 17 → k' ≠ 18 → M5 k' j' = M3 k' j' := fun k' j' a b => by rw [hF5 k' j' (fun q => b q.1), hM4, up_kne a, up_kne a, up_kne a, up_kne a]
  have h17e : M5 17 j = M4 17 j := hF5 17 j (by simp [at1])
  subst hM4
  refine wp_aload_n eX4_build_112 rfl ?_
  refine wp_aload_n eX4_build_113 rfl ?_
  refine c_X4_71 eX4_build_114 (ct_placeItems (nd := nd) (sg := sg) (ln := ln) hj hz hV (by rw [g4 6 z (by decide) (by decide)]; rw [f3 6 z (by decide) (by decide) (by decide) (by decide)]; exact e63) (by rw [g4 9 z (by decide) (by decide), f3 9 z (by decide) (by decide) (by decide) (by decide)]; exact e9) (by rw [g4 7 z (by decide) (by decide), f3 7 z (by decide) (by decide) (by decide) (by decide)]; exact e7) (by rw [h17e]; exact w1) (by rw [h17e]; exact w2) (by rw [h17e]; exact w3) (by rw [h17e]; exact w8) (by rw [h17e]; exact w7) (fun d a b => by rw [g4 23 j (by decide) (by decide), g4 24 j (by decide) (by decide)]; exact h23 d a b) (fun d a b => by rw [g4 22 j (by decide) (by decide)]; exact h22c d a b) (fun M6 hF6 hit => ?_))
  refine wp_return eX4_build_117 ?_
  refine k M6 (fun k' j' hn => ?_) ⟨?_, ?_, ?_, ?_, ?_, hit⟩
  · unfold bpP at hn
    rw [hF6 k' j' (by omega), hF5 k' j' (by unfold at1; omega)]
    by_cases hk : k' = 17
    · subst hk
      have hjj : j' ≠ j := by omega
      rw [up_jne hjj, up_jne hjj, up_jne hjj, up_jne hjj, hF3 17 j' (by omega), hF2 17 j' (by unfold at1; omega), f1 17 j' (by decide)]
    · by_cases hk2 : k' = 22 ∨ k' = 23 ∨ k' = 24
      · have hjj : j' ≠ j := by omega
        rw [up_jne hjj, up_jne hjj, up_jne hjj, up_jne hjj, hF3 k' j' (by omega), hF2 k' j' (by unfold at1; omega), hF1 k' j' (by unfold at1; omega)]
      · rw [up_kne hk, up_kne hk, up_kne hk, up_kne hk, f3 k' j' hk (by omega) (by omega) (by omega)]
  · rw [hF6 17 j (by omega), h17e]; exact w0
  · rw [hF6 17 j (by omega), h17e]; exact w1
  · rw [hF6 17 j (by omega), h17e]; exact w2
  · rw [hF6 17 j (by omega), h17e]; exact w3
  · intro q a b
    rw [hF6 18 j (by omega)]
    exact hst q a b
