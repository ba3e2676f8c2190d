theorem bx_and255 (x : Int) : 0 ≤ bx_and x 255 ∧ bx_and x 255 ≤ 255 := by
  unfold bx_and
  have h : (Int32.ofInt x &&& Int32.ofInt 255).toInt = (((Int32.ofInt x).toBitVec &&& 255#32).toNat : Int) := by
    have e1 : (Int32.ofInt x &&& Int32.ofInt 255).toBitVec = (Int32.ofInt x).toBitVec &&& 255#32 := rfl
    show (Int32.ofInt x &&& Int32.ofInt 255).toBitVec.toInt = _
    rw [e1, BitVec.toInt_eq_toNat_of_lt]
    have : ((Int32.ofInt x).toBitVec &&& 255#32).toNat ≤ 255 := by
      rw [BitVec.toNat_and]
      exact Nat.and_le_right
    omega
  have h2 : ((Int32.ofInt x).toBitVec &&& 255#32).toNat ≤ 255 := by
    rw [BitVec.toNat_and]
    exact Nat.and_le_right
  rw [h]
  omega
set_option maxHeartbeats 1000000 in
theorem ct_load {G : bc_G} {M : bc_M} {post : bc_R → bc_M → Prop} {b D0 : Int → Int} (hbc : BC M b (M 1 0 1)) (h9r : ∀ q, 0 ≤ q → q < 16 → 0 ≤ M 9 0 q ∧ M 9 0 q < 10000) (k1 : (ldE b (M 1 0 1) D0).1 ≠ 0 → ∀ M1 : bc_M, Fr (rdP 0) (bc_up M 1 0 1 0) M1 → (∀ q, 0 ≤ q → q < 16 → 0 ≤ M1 9 0 q ∧ M1 9 0 q < 10000) → post (.inr (some (vI (-10 - (ldE b (M 1 0 1) D0).1)))) (bc_up M1 1 0 2 (ldE b (M 1 0 1) D0).2.1)) (k2 : (ldE b (M 1 0 1) D0).1 = 0 → ∀ M1 M3 M4 : bc_M, Fr (rdP 0) (bc_up M 1 0 1 0) M1 → DF M1 0 (ldC b (M 1 0 1) D0).2.2 (ldD b (M 1 0 1) D0).2.1 (ldI b (M 1 0 1) D0).2.1 (ldC b (M 1 0 1) D0).2.1 → (∀ q, 0 ≤ q → q < 16 → 0 ≤ M1 9 0 q ∧ M1 9 0 q < 10000) → Fr (STP 1) (bc_up M1 1 0 2 (-1)) M3 → stEq M3 1 (bc_up M1 1 0 2 (-1)) 0 → SM M3 1 → Fr (bpP 0) M3 M4 → BR M4 0 (M3 9 1) (M3 7 1) (M3 6 1 2) (M3 6 1 3) (M3 6 1 0) (M3 6 1 1) → post (.inr (some (vI (ldI b (M 1 0 1) D0).2.1))) (bc_up (bc_up M4 15 0 0 0) 1 0 3 1)) : bc_Call G yX8_load cX8_load 3 (some .int) 10 0 [vR G 1 0] M post := by
  refine bc_enter (L := [some (vR G 1 0), none, none]) (by decide) rfl rfl ?_
  refine wp_aload_n eX8_load_0 rfl ?_
  refine gf_X8_13 eX8_load_1 ?_
  refine ist_1 eX8_load_4 ?_
  refine wp_aload_n eX8_load_5 rfl ?_
  refine wp_iconst eX8_load_6 ?_
  refine pf_X8_13 eX8_load_7 ?_
  refine wp_aload_n eX8_load_10 rfl ?_
  refine gf_X8_27 eX8_load_11 ?_
  refine wp_aload_n eX8_load_14 rfl ?_
  refine gf_X8_9 eX8_load_15 ?_
  refine wp_iload_n eX8_load_18 rfl ?_
  refine wp_aload_n eX8_load_19 rfl ?_
  refine gf_X8_34 eX8_load_20 ?_
  refine c_X8_101 eX8_load_23 (ct_pRead (z := 0) (D0 := D0) (b := b) (len := M 1 0 1) (⟨fun q a b9 => ⟨by rw [up_kne (by decide)]; exact (hbc.1 q a b9).1, (hbc.1 q a b9).2⟩, hbc.2⟩) (by decide) (fun q a b9 => by rw [up_kne (by decide)]; exact h9r q a b9) (fun M1 f1 p1 s1 r1 d1 => ?_))
  have hr1 := s1.1
  refine ist_2 eX8_load_26 ?_
  refine wp_iload_n eX8_load_27 rfl ?_
  refine wp_if_eq eX8_load_28 (fun c28 => ?_) (fun c28 => ?_)
  · have hd := d1 c28
    have hlo := ld_ok c28
    refine wp_aload_n eX8_load_47 rfl ?_
    refine wp_iconst eX8_load_48 ?_
    refine pf_X8_17 eX8_load_49 ?_
    refine wp_aload_n eX8_load_52 rfl ?_
    refine gf_X8_38 eX8_load_53 ?_
    refine wp_aload_n eX8_load_56 rfl ?_
    refine gf_X8_34 eX8_load_57 ?_
    refine c_X8_108 eX8_load_60 (ct_stCopy (z := 1) (y := 0) (ls := (ldC b (M 1 0 1) D0).2.1) (by decide) (by decide) (by decide) hlo.2.2.1 (by rw [up_kne (by decide)]; exact hd.2.2.2.1) (fun M3 f3 e3 => ?_))
    obtain ⟨⟨q7, q8, q9, q10, q6⟩, q5, qc⟩ := e3
    have v6 : ∀ f, 0 ≤ f → f < 4 → M3 6 1 f = M1 6 0 f := fun f a b9 => by rw [q6 f a b9, up_kne (by decide)]
    have hV : SV (M3 9 1) (M3 7 1) (ldD b (M 1 0 1) D0).2.1 (ldI b (M 1 0 1) D0).2.1 ((ldC b (M 1 0 1) D0).2.2 0) ((ldC b (M 1 0 1) D0).2.2 1) := by
      refine ⟨hlo.1, hlo.2.1, hlo.2.2.2.1, hlo.2.2.2.2.1, fun x a b9 => ?_, fun x a b9 => ?_⟩
      · rw [q7, up_kne (by decide), hd.2.1 x a b9]; exact hlo.2.2.2.2.2.1 x a b9
      · rw [q9, up_kne (by decide), (hd.2.2.1 x a b9).2.1]; exact (hlo.2.2.2.2.2.2.1 x a b9).2.1
    have hSM : SM M3 1 := by
      unfold SM
      rw [v6 0 (by decide) (by decide), v6 1 (by decide) (by decide), v6 2 (by decide) (by decide), v6 3 (by decide) (by decide), hd.1.1, hd.1.2.1, hd.1.2.2.1, hd.1.2.2.2]
      refine ⟨hV, fun x a b9 => ?_⟩
      rw [q8, q10, up_kne (by decide), up_kne (by decide), (hd.2.2.1 x a b9).1, (hd.2.2.1 x a b9).2.2]
      exact ⟨(hlo.2.2.2.2.2.2.1 x a b9).1, (hlo.2.2.2.2.2.2.1 x a b9).2.2⟩
    refine wp_aload_n eX8_load_63 rfl ?_
    refine gf_X8_51 eX8_load_64 ?_
    refine wp_aload_n eX8_load_67 rfl ?_
    refine gf_X8_38 eX8_load_68 ?_
    refine gf_X8_112 eX8_load_71 ?_
    refine c_X8_115 eX8_load_74 (ct_build (j := 0) (z := 1) (by decide) (by decide) hSM.1 rfl rfl rfl rfl rfl rfl (fun M4 f4 h4 => ?_))
    refine wp_aload_n eX8_load_77 rfl ?_
    refine gf_X8_44 eX8_load_78 ?_
    refine c_X8_119 eX8_load_81 (ct_forget ?_)
    refine wp_aload_n eX8_load_84 rfl ?_
    refine wp_iconst eX8_load_85 ?_
    refine pf_X8_20 eX8_load_86 (by decide) ?_
    refine wp_aload_n eX8_load_89 rfl ?_
    refine gf_X8_38 eX8_load_90 ?_
    refine gf_X8_112 eX8_load_93 ?_
    refine gf_X8_122 eX8_load_96 ?_
    rw [up_kne (by decide), up_kne (by decide), f4 6 1 (by unfold bpP; omega), v6 3 (by decide) (by decide), hd.1.2.2.2]
    refine wp_ireturn eX8_load_99 ?_
    exact k2 c28 M1 M3 M4 f1 hd r1 f3 ⟨⟨q7, q8, q9, q10, q6⟩, q5, qc⟩ hSM f4 h4
  · refine wp_aload_n eX8_load_31 rfl ?_
    refine wp_aload_n eX8_load_32 rfl ?_
    refine gf_X8_27 eX8_load_33 ?_
    refine gf_X8_105 eX8_load_36 ?_
    rw [p1.2.2.1]
    refine pf_X8_17 eX8_load_39 ?_
    refine wp_bipush eX8_load_42 ?_
    refine wp_iload_n eX8_load_44 rfl ?_
    refine wp_isub eX8_load_45 ?_
    refine wp_ireturn eX8_load_46 ?_
    exact k1 c28 M1 f1 r1
