/-- a client in the memory after at most n requests and thoughts -/
def CN (M : bc_M) (c n : Int) : Prop := (0 ≤ M 12 c 0 ∧ M 12 c 0 ≤ 4) ∧ (0 ≤ M 12 c 1 ∧ M 12 c 1 ≤ 2) ∧ (0 ≤ M 12 c 2 ∧ M 12 c 2 ≤ 10000 * n) ∧ (0 ≤ M 12 c 7 ∧ M 12 c 7 < 65536) ∧ (0 ≤ M 12 c 8 ∧ M 12 c 8 ≤ n) ∧ ∀ i, 0 ≤ i → i < 16 → (0 ≤ M 13 c i ∧ M 13 c i ≤ n) ∧ 0 ≤ M 14 c i ∧ M 14 c i ≤ n
theorem CN.cv {M : bc_M} {c n : Int} (h : CN M c n) (hn : n ≤ 3000) : CV M c := by
  obtain ⟨h1, h2, h3, h4, h5, h6⟩ := h
  exact ⟨h1, h2, by omega, h4, by omega, fun i a b => by have := h6 i a b; omega⟩
theorem PV_fr {M M' : bc_M} {j ni : Int} (h : PV M j ni) (e : ∀ k q, (k = 17 ∨ k = 18 ∨ k = 19 ∨ k = 21) → M' k q = M k q) : PV M' j ni := by
  unfold PV at h ⊢
  simp only [e 17 _ (by decide), e 18 _ (by decide), e 19 _ (by decide), e 21 _ (by decide)]
  exact h
theorem SM_fr {M M' : bc_M} {z : Int} (h : SM M z) (e : ∀ k, (k = 6 ∨ k = 7 ∨ k = 8 ∨ k = 9 ∨ k = 10) → M' k z = M k z) : SM M' z := by
  unfold SM at h ⊢
  simp only [e 6 (by decide), e 7 (by decide), e 8 (by decide), e 9 (by decide), e 10 (by decide)]
  exact h
def ask1 (M : bc_M) (c i : Int) : bc_M := bc_up (bc_up (bc_up M 12 c 8 (M 12 c 8 + 1)) 13 c i (M 13 c i + 1)) 14 c i (M 12 c 8 + 1)
def ask5 (M : bc_M) (c w l : Int) : bc_M := bc_up (bc_up (bc_up (bc_up M 12 c 4 (M 12 c 4 + 1)) 12 c 5 (M 12 c 5 + w)) 12 c 6 (M 12 c 6 + l)) 12 c 2 (M 12 c 2 + w)
def askM (M : bc_M) (c z j i : Int) : bc_M :=
  if bs (M 12 c 7) i then bc_up (ask1 M c i) 12 c 3 (M 12 c 3 + 1)
  else bc_up (ask5 (ask1 M c i) c (pg_wait M j i (M 12 c 2)) (pg_listen M j i (M 12 c 2))) 12 c 7 (cl_new (ask5 (ask1 M c i) c (pg_wait M j i (M 12 c 2)) (pg_listen M j i (M 12 c 2))) c z i)
def askR (M : bc_M) (c j i : Int) : Int := if bs (M 12 c 7) i then 0 else pg_wait M j i (M 12 c 2)
theorem ext_M {M M' : bc_M} (h : ∀ k j f, M' k j f = M k j f) : M' = M := by funext k j f; exact h k j f
theorem ask1_o {M : bc_M} {c i : Int} {k : Nat} {q : Int} (h : k ≠ 12 ∧ k ≠ 13 ∧ k ≠ 14) : ask1 M c i k q = M k q := by
  unfold ask1; rw [up_kne h.2.2, up_kne h.2.1, up_kne h.1]
theorem ask1_12 {M : bc_M} {c i : Int} : ask1 M c i 12 c = bc_u (M 12 c) 8 (M 12 c 8 + 1) := by
  unfold ask1; rw [up_kne (by decide), up_kne (by decide), up_at]
theorem ask1_13 {M : bc_M} {c i : Int} : ask1 M c i 13 c = bc_u (M 13 c) i (M 13 c i + 1) := by
  unfold ask1; rw [up_kne (by decide), up_at, up_kne (by decide)]
theorem ask1_14 {M : bc_M} {c i : Int} : ask1 M c i 14 c = bc_u (M 14 c) i (M 12 c 8 + 1) := by
  unfold ask1; rw [up_at, up_kne (by decide), up_kne (by decide)]
theorem ask5_o {M : bc_M} {c w l : Int} {k : Nat} {q : Int} (h : k ≠ 12) : ask5 M c w l k q = M k q := by
  unfold ask5; rw [up_kne h, up_kne h, up_kne h, up_kne h]
theorem ask5_v {M : bc_M} {c w l : Int} {f : Int} (h : f ≠ 4 ∧ f ≠ 5 ∧ f ≠ 6 ∧ f ≠ 2) : ask5 M c w l 12 c f = M 12 c f := by
  unfold ask5; rw [up_v, if_neg h.2.2.2, up_v, if_neg h.2.2.1, up_v, if_neg h.2.1, up_v, if_neg h.1]
theorem ask1_cn {M : bc_M} {c i n : Int} (h : CN M c n) : CN (ask1 M c i) c (n + 1) := by
  obtain ⟨h1, h2, h3, h4, h5, h6⟩ := h
  unfold CN
  rw [ask1_12, ask1_13, ask1_14]
  simp only [u_at, u_ne (show (0 : Int) ≠ 8 by decide), u_ne (show (1 : Int) ≠ 8 by decide), u_ne (show (2 : Int) ≠ 8 by decide), u_ne (show (7 : Int) ≠ 8 by decide)]
  refine ⟨h1, h2, by omega, h4, by omega, fun x a b => ?_⟩
  have h7 := h6 x a b
  by_cases hx : x = i
  · subst hx; rw [u_at, u_at]; omega
  · rw [u_ne hx, u_ne hx]; omega
theorem ask5_cn {M : bc_M} {c w l n : Int} (h : CN M c n) (hw : 0 ≤ w) (ht : M 12 c 2 + w ≤ 10000 * n) : CN (ask5 M c w l) c n := by
  obtain ⟨h1, h2, h3, h4, h5, h6⟩ := h
  unfold CN
  rw [ask5_o (k := 13) (by decide), ask5_o (k := 14) (by decide), ask5_v (f := 0) (by decide), ask5_v (f := 1) (by decide), ask5_v (f := 7) (by decide), ask5_v (f := 8) (by decide)]
  refine ⟨h1, h2, ?_, h4, h5, h6⟩
  unfold ask5
  rw [up_v, if_pos rfl]
  omega
theorem up7_cn {M : bc_M} {c v n : Int} (h : CN M c n) (hv : 0 ≤ v ∧ v < 65536) : CN (bc_up M 12 c 7 v) c n := by
  unfold CN at h ⊢
  simp only [up_kne (k := 12) (k' := 13) (by decide), up_kne (k := 12) (k' := 14) (by decide), up_at, u_at, u_ne (show (0 : Int) ≠ 7 by decide), u_ne (show (1 : Int) ≠ 7 by decide), u_ne (show (2 : Int) ≠ 7 by decide), u_ne (show (8 : Int) ≠ 7 by decide)]
  exact ⟨h.1, h.2.1, h.2.2.1, hv, h.2.2.2.2.1, h.2.2.2.2.2⟩
theorem up3_cn {M : bc_M} {c v n : Int} (h : CN M c n) : CN (bc_up M 12 c 3 v) c n := by
  unfold CN at h ⊢
  simp only [up_kne (k := 12) (k' := 13) (by decide), up_kne (k := 12) (k' := 14) (by decide), up_at, u_ne (show (0 : Int) ≠ 3 by decide), u_ne (show (1 : Int) ≠ 3 by decide), u_ne (show (2 : Int) ≠ 3 by decide), u_ne (show (8 : Int) ≠ 3 by decide), u_ne (show (7 : Int) ≠ 3 by decide)]
  exact h
theorem sq_nx_le {f : Int → Int} {s z B : Int} (hz : 0 ≤ z ∧ z ≤ B) : ∀ (n : Nat) (a : Int), (∀ q, a ≤ q → q < a + n → 0 ≤ f q ∧ f q ≤ B) → 0 ≤ sq_nx f s z n a ∧ sq_nx f s z n a ≤ B
  | 0, _, _ => hz
  | n + 1, a, h => by
    simp only [sq_nx]
    split
    · exact h a (by omega) (by omega)
    · exact sq_nx_le hz n (a + 1) (fun q a b => h q (by omega) (by omega))
theorem sq_nx_ge {f : Int → Int} {s z : Int} (hz : s ≤ z) : ∀ (n : Nat) (a : Int), s ≤ sq_nx f s z n a
  | 0, _ => hz
  | n + 1, a => by
    simp only [sq_nx]
    split
    · assumption
    · exact sq_nx_ge hz n (a + 1)
theorem pg_wait_rg2 {M : bc_M} {j ni i t : Int} (h : PV M j ni) (hi : 0 ≤ i ∧ i < ni) : 0 ≤ pg_wait M j i t ∧ pg_wait M j i t ≤ 9000 := by
  obtain ⟨h1, h2, h3, h4, h5, h6⟩ := id h
  have h7 := h6 i hi.1 hi.2
  have t1 : 0 ≤ t % M 17 j 0 := Int.emod_nonneg _ (by omega)
  have t2 : t % M 17 j 0 < M 17 j 0 := Int.emod_lt_of_pos _ (by omega)
  have hf : t % M 17 j 0 ≤ pg_from M j i (t % M 17 j 0) ∧ pg_from M j i (t % M 17 j 0) ≤ 2004 := by
    unfold pg_from
    split
    · rename_i hq
      have s0 := h4 0 (by omega) hq.1
      have s1 := sq_nx_le (f := M 18 j) (s := t % M 17 j 0) (z := M 18 j 0 + M 17 j 0) (B := 2000) ⟨by omega, by omega⟩ (M 17 j 2).toNat 0 (fun q a b => by have := h4 q (by omega) (by omega); omega)
      have s2 := sq_nx_ge (f := M 18 j) (s := t % M 17 j 0) (z := M 18 j 0 + M 17 j 0) (by omega) (M 17 j 2).toNat 0
      unfold pg_sx
      omega
    · omega
  have u1 : 0 ≤ pg_from M j i (t % M 17 j 0) % M 17 j 0 := Int.emod_nonneg _ (by omega)
  have u2 : pg_from M j i (t % M 17 j 0) % M 17 j 0 < M 17 j 0 := Int.emod_lt_of_pos _ (by omega)
  have v0 := h7.2 0 (by omega) (by omega)
  have v1 := pg_nx_rng (s := pg_from M j i (t % M 17 j 0) % M 17 j 0) h hi
  have v2 : pg_from M j i (t % M 17 j 0) % M 17 j 0 ≤ pg_nx M j i (pg_from M j i (t % M 17 j 0) % M 17 j 0) := by
    unfold pg_nx
    exact sq_nx_ge (by omega) _ _
  unfold pg_wait
  omega
theorem pg_wait_fr {M M' : bc_M} {j i t : Int} (e : ∀ k q, (k = 17 ∨ k = 18 ∨ k = 19 ∨ k = 21) → M' k q = M k q) : pg_wait M' j i t = pg_wait M j i t ∧ pg_listen M' j i t = pg_listen M j i t := by
  unfold pg_listen pg_wait pg_from pg_nx pg_sx pg_on pg_st
  simp only [e 17 _ (by decide), e 18 _ (by decide), e 19 _ (by decide), e 21 _ (by decide), and_self]
theorem bs_clr_rng {s i : Int} (hs : 0 ≤ s ∧ s < 65536) (hi : 0 ≤ i ∧ i < 16) (hb : bs s i = true) : 0 ≤ s - ((2 ^ i.toNat : Nat) : Int) ∧ s - ((2 ^ i.toNat : Nat) : Int) < 65536 := by
  have h := bs_clr (s := s) (i := i) (by omega) (by omega) hb
  have hp := Nat.two_pow_pos i.toNat
  omega
theorem cl_new_rng {M : bc_M} {c z i : Int} (hv : CV M c) (hs : SM M z) (hi : 0 ≤ i ∧ i < M 6 z 3) : 0 ≤ cl_new M c z i ∧ cl_new M c z i < 65536 := by
  have hni := hs.1.2.1
  have hca := hv.2.2.2.1
  have hsr := bs_add_rng (s := M 12 c 7) (i := i) (n := 16) (by omega) (by omega)
  have hsr : 0 ≤ cl_set M c i ∧ cl_set M c i < 65536 := hsr
  unfold cl_new
  split
  · exact hsr
  · rename_i hq
    have hre : cl_rem M c z i = cl_vic M c z (cl_set M c i) (M 6 z 3).toNat 0 i := by unfold cl_rem; rw [if_neg hq]
    have hin : bs (cl_set M c i) i = true := by unfold cl_set; rw [bs_add_in (by omega) (by omega)]; simp
    have hvi := cl_vic_in (M := M) (c := c) (z := z) (s := cl_set M c i) (ni := M 6 z 3) (M 6 z 3).toNat 0 i (by omega) (by omega) ⟨hi.1, hi.2, hin⟩
    rw [hre]
    exact bs_clr_rng hsr ⟨by omega, by omega⟩ hvi.2.2
theorem ct_ask {G : bc_G} {M : bc_M} {post : bc_R → bc_M → Prop} {c z j i ni n : Int} (hc : 0 ≤ c ∧ c < 50) (hz : 0 ≤ z ∧ z < 13) (hj : 0 ≤ j ∧ j < 2) (hs : SM M z) (hp : PV M j ni) (hni : M 6 z 3 = ni) (hv : CN M c n) (hn : 0 ≤ n ∧ n ≤ 2900) (hi : 0 ≤ i ∧ i < ni) (k : post (.inr (some (vI (askR M c j i)))) (askM M c z j i)) : bc_Call G yX0_ask cX0_ask 5 (some .int) 6 0 [vR G 12 c, vI i, vR G 6 z, vR G 17 j] M post := by
  have hni16 := hs.1.2.1
  have ht9 := hv.2.2.1
  have hc9 := hv.2.2.2.1
  refine bc_enter (L := [some (vR G 12 c), some (vI i), some (vR G 6 z), some (vR G 17 j), none]) (by decide) rfl rfl ?_
  refine wp_aload_n eX0_ask_0 rfl ?_
  refine wp_iload_n eX0_ask_1 rfl ?_
  refine c_X0_52 eX0_ask_2 (ct_note hc (by omega) (fun M1 g1 g2 g3 g4 g5 => ?_))
  have hM1 : M1 = ask1 M c i := ext_M (fun k9 j9 f9 => by
    by_cases hj9 : j9 = c
    · subst hj9
      by_cases hk9 : k9 = 12
      · subst hk9
        rw [ask1_12]
        by_cases hf9 : f9 = 8
        · subst hf9; rw [g3, u_at]
        · rw [g2 _ hf9, u_ne hf9]
      · by_cases hk9 : k9 = 13
        · subst hk9; rw [ask1_13, g4]
        · by_cases hk9 : k9 = 14
          · subst hk9; rw [ask1_14, g5]
          · rw [g1 _ _ (by unfold CLP; omega), ask1_o (by omega)]
    · rw [g1 _ _ (by unfold CLP; omega)]
      unfold ask1
      rw [up_jne hj9, up_jne hj9, up_jne hj9])
  subst hM1
  clear g1 g2 g3 g4 g5
  have e17 : ∀ k9 q9, (k9 = 17 ∨ k9 = 18 ∨ k9 = 19 ∨ k9 = 21) → ask1 M c i k9 q9 = M k9 q9 := fun k9 q9 h9 => ask1_o (by omega)
  have hp1 := PV_fr hp e17
  have hcn1 := ask1_cn (i := i) hv
  have hwr := pg_wait_rg2 (t := M 12 c 2) hp hi
  refine wp_aload_n eX0_ask_5 rfl ?_
  refine gf_X0_33 eX0_ask_6 ?_
  refine wp_iload_n eX0_ask_9 rfl ?_
  rw [ask1_12, u_ne (by decide)]
  refine c_X0_56 eX0_ask_10 (ct_isIn ?_)
  refine wp_if_eq eX0_ask_13 (fun c13 => ?_) (fun c13 => ?_) (by split <;> omega)
  · have hb : bs (M 12 c 7) i = false := by
      cases h : bs (M 12 c 7) i
      · rfl
      · rw [h] at c13; exact absurd c13 (by decide)
    refine wp_aload_n eX0_ask_28 rfl ?_
    refine wp_iload_n eX0_ask_29 rfl ?_
    refine wp_aload_n eX0_ask_30 rfl ?_
    refine gf_X0_18 eX0_ask_31 ?_
    rw [ask1_12, u_ne (by decide)]
    refine c_X0_60 eX0_ask_34 (ct_waitFor hj hp1 hi (by omega) ?_)
    rw [(pg_wait_fr e17).1]
    refine ist_4 eX0_ask_37 ?_
    refine wp_aload_n eX0_ask_39 rfl ?_
    refine wp_dup eX0_ask_40 ?_
    refine gf_X0_24 eX0_ask_41 ?_
    refine wp_iconst eX0_ask_44 ?_
    refine wp_iadd eX0_ask_45 ?_
    refine pf_X0_24 eX0_ask_46 ?_
    refine wp_aload_n eX0_ask_49 rfl ?_
    refine wp_dup eX0_ask_50 ?_
    refine gf_X0_27 eX0_ask_51 ?_
    refine wp_iload eX0_ask_54 rfl ?_
    refine wp_iadd eX0_ask_56 ?_
    refine pf_X0_27 eX0_ask_57 ?_
    refine wp_aload_n eX0_ask_60 rfl ?_
    refine wp_dup eX0_ask_61 ?_
    refine gf_X0_30 eX0_ask_62 ?_
    refine wp_aload_n eX0_ask_65 rfl ?_
    refine wp_iload_n eX0_ask_66 rfl ?_
    refine wp_aload_n eX0_ask_67 rfl ?_
    refine gf_X0_18 eX0_ask_68 ?_
    rw [up_v, if_neg (by decide), up_v, if_neg (by decide), show ask1 M c i 12 c 2 = M 12 c 2 by rw [ask1_12, u_ne (by decide)]]
    refine c_X0_66 eX0_ask_71 (ct_listeningFor hj (PV_fr hp1 (fun k9 q9 h9 => by rw [up_kne (by omega), up_kne (by omega)])) hi (by omega) ?_)
    rw [(pg_wait_fr (fun k9 q9 h9 => by rw [up_kne (by omega), up_kne (by omega)])).2, (pg_wait_fr e17).2]
    refine wp_iadd eX0_ask_74 ?_
    refine pf_X0_30 eX0_ask_75 ?_
    refine wp_aload_n eX0_ask_78 rfl ?_
    refine wp_dup eX0_ask_79 ?_
    refine gf_X0_18 eX0_ask_80 ?_
    refine wp_iload eX0_ask_83 rfl ?_
    refine wp_iadd eX0_ask_85 ?_
    refine pf_X0_18 eX0_ask_86 ?_
    have hM5 : bc_up (bc_up (bc_up (bc_up (ask1 M c i) 12 c 4 (ask1 M c i 12 c 4 + 1)) 12 c 5 (bc_up (ask1 M c i) 12 c 4 (ask1 M c i 12 c 4 + 1) 12 c 5 + pg_wait M j i (M 12 c 2))) 12 c 6 (bc_up (bc_up (ask1 M c i) 12 c 4 (ask1 M c i 12 c 4 + 1)) 12 c 5 (bc_up (ask1 M c i) 12 c 4 (ask1 M c i 12 c 4 + 1) 12 c 5 + pg_wait M j i (M 12 c 2)) 12 c 6 + pg_listen M j i (M 12 c 2))) 12 c 2 (bc_up (bc_up (bc_up (ask1 M c i) 12 c 4 (ask1 M c i 12 c 4 + 1)) 12 c 5 (bc_up (ask1 M c i) 12 c 4 (ask1 M c i 12 c 4 + 1) 12 c 5 + pg_wait M j i (M 12 c 2))) 12 c 6 (bc_up (bc_up (ask1 M c i) 12 c 4 (ask1 M c i 12 c 4 + 1)) 12 c 5 (bc_up (ask1 M c i) 12 c 4 (ask1 M c i 12 c 4 + 1) 12 c 5 + pg_wait M j i (M 12 c 2)) 12 c 6 + pg_listen M j i (M 12 c 2)) 12 c 2 + pg_wait M j i (M 12 c 2)) = ask5 (ask1 M c i) c (pg_wait M j i (M 12 c 2)) (pg_listen M j i (M 12 c 2)) := by
      unfold ask5
      simp only [up_v, show ¬ ((5 : Int) = 4) by decide, show ¬ ((6 : Int) = 5) by decide, show ¬ ((6 : Int) = 4) by decide, show ¬ ((2 : Int) = 6) by decide, show ¬ ((2 : Int) = 5) by decide, show ¬ ((2 : Int) = 4) by decide, if_false]
    rw [hM5]
    have hcn5 : CN (ask5 (ask1 M c i) c (pg_wait M j i (M 12 c 2)) (pg_listen M j i (M 12 c 2))) c (n + 1) := ask5_cn hcn1 hwr.1 (by rw [ask1_12, u_ne (by decide)]; omega)
    refine wp_aload_n eX0_ask_89 rfl ?_
    refine wp_iload_n eX0_ask_90 rfl ?_
    refine wp_aload_n eX0_ask_91 rfl ?_
    refine c_X0_69 eX0_ask_92 (ct_admit hc hz (SM_fr hs (fun k9 h9 => by rw [ask5_o (by omega), ask1_o (by omega)])) (CN.cv hcn5 (by omega)) (by rw [ask5_o (by decide), ask1_o (by decide)]; omega) (fun M6 g1 g2 g3 => ?_))
    have hM6 : M6 = askM M c z j i := ext_M (fun k9 j9 f9 => by
      unfold askM
      rw [if_neg (by rw [hb]; decide)]
      by_cases hq9 : k9 = 12 ∧ j9 = c
      · obtain ⟨q1, q2⟩ := hq9
        subst q1 q2
        by_cases hf9 : f9 = 7
        · subst hf9; rw [g3, up_v, if_pos rfl]
        · rw [g2 _ hf9, up_v, if_neg hf9]
      · rw [g1 _ _ hq9]
        simp only [bc_up, if_neg hq9])
    subst hM6
    refine wp_pop eX0_ask_95 ?_
    refine wp_iload eX0_ask_96 rfl ?_
    refine wp_ireturn eX0_ask_98 ?_
    have e2 : askR M c j i = pg_wait M j i (M 12 c 2) := by unfold askR; rw [if_neg (by rw [hb]; decide)]
    rw [e2] at k
    exact k
  · have hb : bs (M 12 c 7) i = true := by
      cases h : bs (M 12 c 7) i
      · rw [h] at c13; exact absurd rfl c13
      · rfl
    refine wp_aload_n eX0_ask_16 rfl ?_
    refine wp_dup eX0_ask_17 ?_
    refine gf_X0_21 eX0_ask_18 ?_
    refine wp_iconst eX0_ask_21 ?_
    refine wp_iadd eX0_ask_22 ?_
    refine pf_X0_21 eX0_ask_23 ?_
    refine wp_iconst eX0_ask_26 ?_
    refine wp_ireturn eX0_ask_27 ?_
    have e1 : askM M c z j i = bc_up (ask1 M c i) 12 c 3 (M 12 c 3 + 1) := by unfold askM; rw [if_pos hb]
    rw [ask1_12, u_ne (by decide), ← e1]
    have e2 : askR M c j i = 0 := by unfold askR; rw [if_pos hb]
    rw [e2] at k
    exact k
theorem askM_cn {M : bc_M} {c z j i ni n : Int} (hs : SM M z) (hp : PV M j ni) (hni : M 6 z 3 = ni) (hv : CN M c n) (hn : 0 ≤ n ∧ n ≤ 2900) (hi : 0 ≤ i ∧ i < ni) : CN (askM M c z j i) c (n + 1) := by
  have hwr := pg_wait_rg2 (t := M 12 c 2) hp hi
  have ht9 := hv.2.2.1
  have hcn1 := ask1_cn (i := i) hv
  unfold askM
  split
  · exact up3_cn hcn1
  · have hcn5 : CN (ask5 (ask1 M c i) c (pg_wait M j i (M 12 c 2)) (pg_listen M j i (M 12 c 2))) c (n + 1) := ask5_cn hcn1 hwr.1 (by rw [ask1_12, u_ne (by decide)]; omega)
    exact up7_cn hcn5 (cl_new_rng (CN.cv hcn5 (by omega)) (SM_fr hs (fun k9 h9 => by rw [ask5_o (by omega), ask1_o (by omega)])) (by rw [ask5_o (by decide), ask1_o (by decide)]; omega))
theorem askM_fr {M : bc_M} {c z j i : Int} : Fr (CLP c) M (askM M c z j i) := by
  intro k' j' hn
  unfold CLP at hn
  have h1 : ∀ (Q : bc_M) (f v : Int), bc_up Q 12 c f v k' j' = Q k' j' := fun Q f v => by simp only [bc_up, if_neg (show ¬ (k' = 12 ∧ j' = c) by omega)]
  have h2 : ∀ (Q : bc_M) (f v : Int), bc_up Q 13 c f v k' j' = Q k' j' := fun Q f v => by simp only [bc_up, if_neg (show ¬ (k' = 13 ∧ j' = c) by omega)]
  have h3 : ∀ (Q : bc_M) (f v : Int), bc_up Q 14 c f v k' j' = Q k' j' := fun Q f v => by simp only [bc_up, if_neg (show ¬ (k' = 14 ∧ j' = c) by omega)]
  unfold askM ask5 ask1
  split <;> simp only [h1, h2, h3]
