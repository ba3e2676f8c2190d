theorem stEq_from15 {M1 M : bc_M} {a b j f v j2 f2 v2 : Int} (h : stEq M1 a (bc_up (bc_up M 15 j f v) 15 j2 f2 v2) b) : stEq M1 a M b := by
  obtain ⟨⟨q1, q2, q3, q4, q5⟩, q6, q7⟩ := h
  have e : ∀ (k : Nat) (x : Int), k ≠ 15 → bc_up (bc_up M 15 j f v) 15 j2 f2 v2 k x = M k x := fun k x hk => by rw [up_kne hk, up_kne hk]
  rw [e _ _ (by decide)] at q1 q2 q3 q4 q6 q7
  refine ⟨⟨q1, q2, q3, q4, fun f a b => by rw [q5 f a b, e _ _ (by decide)]⟩, q6, fun c a b => ?_⟩
  obtain ⟨r1, r2, r3⟩ := q7 c a b
  rw [e _ _ (by decide)] at r1 r2
  exact ⟨r1, r2, fun f a b => by rw [r3 f a b, e _ _ (by decide)]⟩
theorem ct_restore {G : bc_G} {M : bc_M} {post : bc_R → bc_M → Prop} (hn : 0 ≤ M 15 0 1 ∧ M 15 0 1 < 10) (hr : 0 < M 15 0 0 ∧ M 15 0 0 ≤ 10) (hls : 0 ≤ M 5 (2 + (if 0 < M 15 0 1 then M 15 0 1 - 1 else 9)) 1 ∧ M 5 (2 + (if 0 < M 15 0 1 then M 15 0 1 - 1 else 9)) 1 ≤ 4) (k : ∀ M' : bc_M, Fr (fun k' j' => (k' = 15 ∧ j' = 0) ∨ STP 1 k' j') M M' → stEq M' 1 M (2 + (if 0 < M 15 0 1 then M 15 0 1 - 1 else 9)) → M' 15 0 1 = (if 0 < M 15 0 1 then M 15 0 1 - 1 else 9) → M' 15 0 0 = M 15 0 0 - 1 → post (.inr none) M') : bc_Call G yX1_restore cX1_restore 2 none 4 0 [vR G 15 0, vR G 5 1] M post := by
  refine bc_enter (L := [some (vR G 15 0), some (vR G 5 1)]) (by decide) rfl rfl ?_
  refine wp_aload_n eX1_restore_0 rfl ?_
  refine wp_aload_n eX1_restore_1 rfl ?_
  refine gf_X1_15 eX1_restore_2 ?_
  refine wp_if_le eX1_restore_5 (fun c5 => ?_) (fun c5 => ?_)
  · have e9 : (if 0 < M 15 0 1 then M 15 0 1 - 1 else 9) = 9 := by rw [if_neg (by omega)]
    rw [e9] at hls k
    refine wp_bipush eX1_restore_17 ?_
    refine pf_X1_15 eX1_restore_19 ?_
    refine wp_aload_n eX1_restore_22 rfl ?_
    refine wp_dup eX1_restore_23 ?_
    refine gf_X1_9 eX1_restore_24 ?_
    refine wp_iconst eX1_restore_27 ?_
    refine wp_isub eX1_restore_28 ?_
    rw [up_v, if_neg (by decide)]
    refine pf_X1_9 eX1_restore_29 ?_
    refine wp_aload_n eX1_restore_32 rfl ?_
    refine wp_aload_n eX1_restore_33 rfl ?_
    refine gf_X1_20 eX1_restore_34 ?_
    refine wp_aload_n eX1_restore_37 rfl ?_
    refine gf_X1_15 eX1_restore_38 ?_
    rw [up_v, if_neg (by decide), up_v, if_pos rfl]
    refine al_16 eX1_restore_41 ?_
    refine c_X1_25 eX1_restore_42 (ct_stCopy (ls := M 5 (2 + (9)) 1) (by omega) (by omega) (by omega) hls (by rw [up_kne (by decide), up_kne (by decide)]) (fun M1 hF hE => ?_))
    refine wp_return eX1_restore_45 ?_
    refine k _ (fun k' j' hn9 => ?_) ?_ ?_ ?_
    · rw [hF k' j' (fun q => hn9 (Or.inr q))]
      have hk : ¬ (k' = 15 ∧ j' = 0) := fun q => hn9 (Or.inl q)
      have e1 : ∀ (Q : bc_M) (f v : Int), bc_up Q 15 0 f v k' j' = Q k' j' := fun Q f v => by simp only [bc_up, if_neg hk]
      rw [e1, e1]
    · exact stEq_from15 hE
    · rw [hF 15 0 (by unfold STP; omega), up_v, if_neg (by decide), up_v, if_pos rfl]
    · rw [hF 15 0 (by unfold STP; omega), up_v, if_pos rfl]
  · have e9 : (if 0 < M 15 0 1 then M 15 0 1 - 1 else 9) = M 15 0 1 - 1 := by rw [if_pos (by omega)]
    rw [e9] at hls k
    refine wp_aload_n eX1_restore_8 rfl ?_
    refine gf_X1_15 eX1_restore_9 ?_
    refine wp_iconst eX1_restore_12 ?_
    refine wp_isub eX1_restore_13 ?_
    refine wp_goto eX1_restore_14 ?_
    refine pf_X1_15 eX1_restore_19 ?_
    refine wp_aload_n eX1_restore_22 rfl ?_
    refine wp_dup eX1_restore_23 ?_
    refine gf_X1_9 eX1_restore_24 ?_
    refine wp_iconst eX1_restore_27 ?_
    refine wp_isub eX1_restore_28 ?_
    rw [up_v, if_neg (by decide)]
    refine pf_X1_9 eX1_restore_29 ?_
    refine wp_aload_n eX1_restore_32 rfl ?_
    refine wp_aload_n eX1_restore_33 rfl ?_
    refine gf_X1_20 eX1_restore_34 ?_
    refine wp_aload_n eX1_restore_37 rfl ?_
    refine gf_X1_15 eX1_restore_38 ?_
    rw [up_v, if_neg (by decide), up_v, if_pos rfl]
    refine al_16 eX1_restore_41 ?_
    refine c_X1_25 eX1_restore_42 (ct_stCopy (ls := M 5 (2 + (M 15 0 1 - 1)) 1) (by omega) (by omega) (by omega) hls (by rw [up_kne (by decide), up_kne (by decide)]) (fun M1 hF hE => ?_))
    refine wp_return eX1_restore_45 ?_
    refine k _ (fun k' j' hn9 => ?_) ?_ ?_ ?_
    · rw [hF k' j' (fun q => hn9 (Or.inr q))]
      have hk : ¬ (k' = 15 ∧ j' = 0) := fun q => hn9 (Or.inl q)
      have e1 : ∀ (Q : bc_M) (f v : Int), bc_up Q 15 0 f v k' j' = Q k' j' := fun Q f v => by simp only [bc_up, if_neg hk]
      rw [e1, e1]
    · exact stEq_from15 hE
    · rw [hF 15 0 (by unfold STP; omega), up_v, if_neg (by decide), up_v, if_pos rfl]
    · rw [hF 15 0 (by unfold STP; omega), up_v, if_pos rfl]
/-- whom the loop removes -/
def cl_vic (M : bc_M) (c z s : Int) : Nat → Int → Int → Int
  | 0, _, r => r
  | n + 1, q, r => cl_vic M c z s n (q + 1) (if bs s q = true ∧ cl_less M c z q r = true then q else r)
def cl_set (M : bc_M) (c i : Int) : Int := bs_add (M 12 c 7) i
def cl_rem (M : bc_M) (c z i : Int) : Int := if bs_cnt (cl_set M c i) 16 ≤ M 12 c 0 then -2 else cl_vic M c z (cl_set M c i) (M 6 z 3).toNat 0 i
def cl_new (M : bc_M) (c z i : Int) : Int := if bs_cnt (cl_set M c i) 16 ≤ M 12 c 0 then cl_set M c i else cl_set M c i - ((2 ^ (cl_rem M c z i).toNat : Nat) : Int)
theorem cl_vic_in {M : bc_M} {c z s ni : Int} : ∀ (n : Nat) (q r : Int), q + n = ni → 0 ≤ q → (0 ≤ r ∧ r < ni ∧ bs s r = true) → 0 ≤ cl_vic M c z s n q r ∧ cl_vic M c z s n q r < ni ∧ bs s (cl_vic M c z s n q r) = true
  | 0, _, _, _, _, h => h
  | n + 1, q, r, h1, h2, h => by
    simp only [cl_vic]
    apply cl_vic_in n (q + 1) _ (by omega) (by omega)
    split
    · rename_i hq; exact ⟨h2, by omega, hq.1⟩
    · exact h
theorem cl_less_up {M : bc_M} {c z x y v : Int} : cl_less (bc_up M 12 c 7 v) c z x y = cl_less M c z x y := by
  unfold cl_less
  simp only [up_kne (k := 12) (k' := 8) (by decide), up_kne (k := 12) (k' := 7) (by decide), up_kne (k := 12) (k' := 9) (by decide), up_kne (k := 12) (k' := 13) (by decide), up_kne (k := 12) (k' := 14) (by decide), up_at, u_ne (show (1 : Int) ≠ 7 by decide)]
theorem SM_up {M : bc_M} {k : Nat} {j f v z : Int} (h : SM M z) (hk : k ≠ 6 ∧ k ≠ 7 ∧ k ≠ 8 ∧ k ≠ 9 ∧ k ≠ 10) : SM (bc_up M k j f v) z := by
  unfold SM at h ⊢
  rw [up_kne (Ne.symm hk.1), up_kne (Ne.symm hk.2.1), up_kne (Ne.symm hk.2.2.1), up_kne (Ne.symm hk.2.2.2.1), up_kne (Ne.symm hk.2.2.2.2)]
  exact h
theorem CV_up7 {M : bc_M} {c v : Int} (h : CV M c) (hv : 0 ≤ v ∧ v < 65536) : CV (bc_up M 12 c 7 v) c := by
  unfold CV at h ⊢
  simp only [up_kne (k := 12) (k' := 13) (by decide), up_kne (k := 12) (k' := 14) (by decide), up_at, u_at, u_ne (show (0 : Int) ≠ 7 by decide), u_ne (show (1 : Int) ≠ 7 by decide), u_ne (show (2 : Int) ≠ 7 by decide), u_ne (show (8 : Int) ≠ 7 by decide)]
  exact ⟨h.1, h.2.1, h.2.2.1, hv, h.2.2.2.2.1, h.2.2.2.2.2⟩
theorem lp_admit {G : bc_G} {M : bc_M} {post : bc_R → bc_M → Prop} {c z i s ni : Int} (hc : 0 ≤ c ∧ c < 50) (hz : 0 ≤ z ∧ z < 13) (hs : SM M z) (hv : CV M c) (hni : M 6 z 3 = ni) (hsr : 0 ≤ s ∧ s < 65536) (e7 : M 12 c 7 = s) : ∀ (n : Nat) (q r : Int) (h1 : q + n = ni) (h2 : 0 ≤ q) (hr : 0 ≤ r ∧ r < ni) (k : bc_W G RX0 cX0_admit 5 (some .int) 3 0 0 75 [some (vR G 12 c), some (vI i), some (vR G 6 z), some (vI (cl_vic M c z s n q r)), some (vI ni)] [] M post), bc_W G RX0 cX0_admit 5 (some .int) 3 0 0 34 [some (vR G 12 c), some (vI i), some (vR G 6 z), some (vI r), some (vI q)] [] M post := by
  intro n
  induction n with
  | zero =>
    intro q r h1 h2 hr k
    have hn16 := hs.1.2.1
    refine wp_iload eX0_admit_34 rfl ?_
    refine wp_aload_n eX0_admit_36 rfl ?_
    refine gf_X0_79 eX0_admit_37 ?_
    refine wp_icmp_ge eX0_admit_40 (fun c40 => ?_) (fun c40 => ?_)
    · have hq9 : q = ni := by omega
      subst hq9
      exact k
    · omega
  | succ n ih =>
    intro q r h1 h2 hr k
    have hn16 := hs.1.2.1
    refine wp_iload eX0_admit_34 rfl ?_
    refine wp_aload_n eX0_admit_36 rfl ?_
    refine gf_X0_79 eX0_admit_37 ?_
    refine wp_icmp_ge eX0_admit_40 (fun c40 => ?_) (fun c40 => ?_)
    · omega
    · refine wp_aload_n eX0_admit_43 rfl ?_
      refine gf_X0_33 eX0_admit_44 ?_
      rw [e7]
      refine wp_iload eX0_admit_47 rfl ?_
      refine c_X0_56 eX0_admit_49 (ct_isIn ?_)
      refine wp_if_eq eX0_admit_52 (fun c52 => ?_) (fun c52 => ?_) (by split <;> omega)
      · have hk : cl_vic M c z s (n + 1) q r = cl_vic M c z s n (q + 1) r := by
          simp only [cl_vic]
          rw [if_neg (by rintro ⟨h8, h9⟩; rw [h8] at c52; exact absurd c52 (by decide))]
        rw [hk] at k
        refine inc_4 eX0_admit_69 ?_
        refine wp_goto eX0_admit_72 ?_
        exact ih (q + 1) _ (by omega) (by omega) (by omega) k
      · have hb : bs s q = true := by
          cases h : bs s q
          · rw [h] at c52; exact absurd rfl c52
          · rfl
        refine wp_aload_n eX0_admit_55 rfl ?_
        refine wp_iload eX0_admit_56 rfl ?_
        refine wp_iload_n eX0_admit_58 rfl ?_
        refine wp_aload_n eX0_admit_59 rfl ?_
        refine c_X0_84 eX0_admit_60 (ct_isWorthLess hc hz hs hv (by omega) (by omega) ?_)
        refine wp_if_eq eX0_admit_63 (fun c63 => ?_) (fun c63 => ?_) (by split <;> omega)
        · have hk : cl_vic M c z s (n + 1) q r = cl_vic M c z s n (q + 1) r := by
            simp only [cl_vic]
            rw [if_neg (by rintro ⟨h8, h9⟩; rw [h9] at c63; exact absurd c63 (by decide))]
          rw [hk] at k
          refine inc_4 eX0_admit_69 ?_
          refine wp_goto eX0_admit_72 ?_
          exact ih (q + 1) _ (by omega) (by omega) (by omega) k
        · have hl : cl_less M c z q r = true := by
            cases h : cl_less M c z q r
            · rw [h] at c63; exact absurd rfl c63
            · rfl
          have hk : cl_vic M c z s (n + 1) q r = cl_vic M c z s n (q + 1) q := by
            simp only [cl_vic]
            rw [if_pos ⟨hb, hl⟩]
          rw [hk] at k
          refine wp_iload eX0_admit_66 rfl ?_
          refine ist_3 eX0_admit_68 ?_
          refine inc_4 eX0_admit_69 ?_
          refine wp_goto eX0_admit_72 ?_
          exact ih (q + 1) _ (by omega) (by omega) (by omega) k
theorem ct_admit {G : bc_G} {M : bc_M} {post : bc_R → bc_M → Prop} {c z i : Int} (hc : 0 ≤ c ∧ c < 50) (hz : 0 ≤ z ∧ z < 13) (hs : SM M z) (hv : CV M c) (hi : 0 ≤ i ∧ i < M 6 z 3) (k : ∀ M' : bc_M, Fr (at1 12 c) M M' → (∀ f, f ≠ 7 → M' 12 c f = M 12 c f) → M' 12 c 7 = cl_new M c z i → post (.inr (some (vI (cl_rem M c z i)))) M') : bc_Call G yX0_admit cX0_admit 5 (some .int) 3 0 [vR G 12 c, vI i, vR G 6 z] M post := by
  have hni := hs.1.2.1
  have hcap := hv.1
  have hca := hv.2.2.2.1
  refine bc_enter (L := [some (vR G 12 c), some (vI i), some (vR G 6 z), none, none]) (by decide) rfl rfl ?_
  refine wp_aload_n eX0_admit_0 rfl ?_
  refine wp_dup eX0_admit_1 ?_
  refine gf_X0_33 eX0_admit_2 ?_
  refine wp_iconst eX0_admit_5 ?_
  refine wp_iload_n eX0_admit_6 rfl ?_
  refine wp_ishl eX0_admit_7 ?_
  refine wp_ior eX0_admit_8 ?_
  rw [bs_or_shl ⟨by omega, by omega⟩ ⟨by omega, by omega⟩, show bs_add (M 12 c 7) i = cl_set M c i from rfl]
  have hsr := bs_add_rng (s := M 12 c 7) (i := i) (n := 16) (by omega) (by omega)
  have hsr : 0 ≤ cl_set M c i ∧ cl_set M c i < 65536 := hsr
  refine pf_X0_33 eX0_admit_9 ?_
  refine wp_aload_n eX0_admit_12 rfl ?_
  refine gf_X0_33 eX0_admit_13 ?_
  rw [up_v, if_pos rfl]
  refine c_X0_73 eX0_admit_16 (ct_bitCount ?_)
  have hcr := bs_cnt_rng (cl_set M c i) 16
  refine wp_aload_n eX0_admit_19 rfl ?_
  refine gf_X0_9 eX0_admit_20 ?_
  rw [up_v, if_neg (by decide)]
  refine wp_icmp_gt eX0_admit_23 (fun c23 => ?_) (fun c23 => ?_)
  · refine wp_iload_n eX0_admit_29 rfl ?_
    refine ist_3 eX0_admit_30 ?_
    refine wp_iconst eX0_admit_31 ?_
    refine ist_4 eX0_admit_32 ?_
    have hin : bs (cl_set M c i) i = true := by unfold cl_set; rw [bs_add_in (by omega) (by omega)]; simp
    have hvi := cl_vic_in (M := M) (c := c) (z := z) (s := cl_set M c i) (ni := M 6 z 3) (M 6 z 3).toNat 0 i (by omega) (by omega) ⟨hi.1, hi.2, hin⟩
    have hclr := bs_clr (s := cl_set M c i) (i := cl_vic M c z (cl_set M c i) (M 6 z 3).toNat 0 i) ⟨by omega, by omega⟩ ⟨by omega, by omega⟩ hvi.2.2
    have hsame : ∀ (n : Nat) (q r : Int), cl_vic (bc_up M 12 c 7 (cl_set M c i)) c z (cl_set M c i) n q r = cl_vic M c z (cl_set M c i) n q r := by
      intro n
      induction n with
      | zero => intro q r; rfl
      | succ n ih => intro q r; simp only [cl_vic, cl_less_up, ih]
    refine lp_admit (s := cl_set M c i) hc hz (SM_up hs (by decide)) (CV_up7 hv hsr) (by rw [up_kne (by decide)]) hsr (by rw [up_v, if_pos rfl]) (M 6 z 3).toNat 0 i (by omega) (by omega) hi ?_
    rw [hsame]
    refine wp_aload_n eX0_admit_75 rfl ?_
    refine wp_dup eX0_admit_76 ?_
    refine gf_X0_33 eX0_admit_77 ?_
    refine wp_iconst eX0_admit_80 ?_
    refine wp_iload_n eX0_admit_81 rfl ?_
    refine wp_ishl eX0_admit_82 ?_
    refine wp_iconst eX0_admit_83 ?_
    refine wp_ixor eX0_admit_84 ?_
    refine wp_iand eX0_admit_85 ?_
    rw [up_v, if_pos rfl, hclr.1]
    refine pf_X0_33 eX0_admit_86 ?_
    refine wp_iload_n eX0_admit_89 rfl ?_
    refine wp_ireturn eX0_admit_90 ?_
    have hre : cl_rem M c z i = cl_vic M c z (cl_set M c i) (M 6 z 3).toNat 0 i := by unfold cl_rem; rw [if_neg (by omega)]
    rw [← hre]
    refine k _ (Fr.tr (Fr.up ⟨rfl, rfl⟩) (Fr.up ⟨rfl, rfl⟩)) (fun f hf => by rw [up_v, if_neg hf, up_v, if_neg hf]) ?_
    rw [up_v, if_pos rfl]
    unfold cl_new
    rw [if_neg (by omega), hre]
  · have hre : cl_rem M c z i = -2 := by unfold cl_rem; rw [if_pos (by omega)]
    refine wp_bipush eX0_admit_26 ?_
    refine wp_ireturn eX0_admit_28 ?_
    rw [← hre]
    refine k _ (Fr.up ⟨rfl, rfl⟩) (fun f hf => by rw [up_v, if_neg hf]) ?_
    rw [up_v, if_pos rfl]
    unfold cl_new
    rw [if_pos (by omega)]
