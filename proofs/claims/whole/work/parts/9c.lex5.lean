set_option maxHeartbeats 1000000 in
theorem ct_nextF {G : bc_G} {M : bc_M} {post : bc_R → bc_M → Prop} {b : Int → Int} {len : Int} (hb : BT M b len) {en0 : Int} (q12 : M 33 0 12 = len) (q17 : M 33 0 17 = 0) (q18 : M 33 0 18 = -1) (q13 : M 33 0 13 = en0) (hen : 0 ≤ en0 ∧ en0 ≤ len) (k : ∀ g' : Int → Int, NF (M 33 0) g' → PG g' len (0, lx b len en0) → post (.inr none) (bc_row M 33 0 g')) : bc_Call G yX9_next cX9_next 1 none 3 0 [vR G 33 0] M post := by
  have hl := hb.2
  rw [show lx b len en0 = lx_at b len (lxS b len en0) from rfl] at k
  refine bc_enter (L := [some (vR G 33 0)]) (by decide) rfl rfl ?_
  refine wp_aload_n eX9_next_0 rfl ?_
  refine c_X9_110 eX9_next_1 (ct_isFine (by omega) ?_)
  rw [if_pos q17]
  refine wp_if_ne eX9_next_4 (fun c4 => ?_) (fun c4 => ?_)
  · skip
    rw [show M = bc_row M 33 0 (M 33 0) from row_self.symm]
    refine lp_nxB hb (len - en0).toNat en0 (M 33 0) (by omega) (by omega) q13 q12 ?_
    rw [show lx_run lx_bl b len (len - en0).toNat en0 = (lxS b len en0) from rfl]
    have hsr := lxS_r (b := b) (p := en0) hen.2
    have hs0 : 0 ≤ (lxS b len en0) := by omega
    refine wp_aload_n eX9_next_47 rfl ?_
    refine wp_aload_n eX9_next_48 rfl ?_
    refine gf_X9_114 eX9_next_49 ?_
    rw [row_at, u_at]
    refine pf_X9_117 eX9_next_52 ?_
    rw [up_row]
    refine wp_aload_n eX9_next_55 rfl ?_
    refine gf_X9_114 eX9_next_56 ?_
    rw [row_at, u_ne (by decide), u_at]
    refine wp_aload_n eX9_next_59 rfl ?_
    refine gf_X9_92 eX9_next_60 ?_
    rw [row_at, u_ne (by decide), u_ne (by decide), q12]
    refine wp_icmp_ne eX9_next_63 (fun c63 => ?_) (fun c63 => ?_)
    · refine wp_aload_n eX9_next_74 rfl ?_
      refine wp_aload_n eX9_next_75 rfl ?_
      refine gf_X9_114 eX9_next_76 ?_
      rw [row_at, u_ne (by decide), u_at]
      refine c_X9_123 eX9_next_79 (ct_isLetterAt (hb.row (by decide)) (by rw [row_at, u_ne (by decide), u_ne (by decide)]; exact q12) (x := (lxS b len en0)) (by omega) ?_)
      refine wp_if_eq eX9_next_82 (fun c82 => ?_) (fun c82 => ?_) (by split <;> omega)
      · have hle : ¬ lx_le (b (lxS b len en0)) = true := by
          intro h9
          rw [if_pos ⟨by omega, h9⟩] at c82
          exact absurd c82 (by decide)
        refine wp_aload_n eX9_next_117 rfl ?_
        refine wp_aload_n eX9_next_118 rfl ?_
        refine gf_X9_114 eX9_next_119 ?_
        rw [row_at, u_ne (by decide), u_at]
        refine c_X9_127 eX9_next_122 (ct_isDigitAt (hb.row (by decide)) (by rw [row_at, u_ne (by decide), u_ne (by decide)]; exact q12) (x := (lxS b len en0)) (by omega) ?_)
        refine wp_if_eq eX9_next_125 (fun c125 => ?_) (fun c125 => ?_) (by split <;> omega)
        · have hdi : ¬ lx_di (b (lxS b len en0)) = true := by
            intro h9
            rw [if_pos ⟨by omega, h9⟩] at c125
            exact absurd c125 (by decide)
          refine wp_aload_n eX9_next_218 rfl ?_
          refine wp_aload_n eX9_next_219 rfl ?_
          refine wp_aload_n eX9_next_220 rfl ?_
          refine gf_X9_114 eX9_next_221 ?_
          rw [row_at, u_ne (by decide), u_at]
          refine c_X9_95 eX9_next_224 (ct_byteAt (hb.row (by decide)) (by rw [row_at, u_ne (by decide), u_ne (by decide)]; exact q12) (x := (lxS b len en0)) (by omega) ?_)
          rw [if_pos (by omega)]
          have hbs := (hb.1 (lxS b len en0) (by omega) (by omega)).2
          refine wp_bipush eX9_next_227 ?_
          refine wp_icmp_ne eX9_next_229 (fun c229 => ?_) (fun c229 => ?_)
          · refine wp_iconst eX9_next_236 ?_
            refine pf_X9_120 eX9_next_237 ?_
            refine wp_aload_n eX9_next_240 rfl ?_
            refine wp_dup eX9_next_241 ?_
            refine gf_X9_114 eX9_next_242 ?_
            rw [up_row, row_at, u_ne (by decide), u_ne (by decide), u_at]
            refine wp_iconst eX9_next_245 ?_
            refine wp_iadd eX9_next_246 ?_
            refine pf_X9_114 eX9_next_247 ?_
            refine wp_return eX9_next_250 ?_
            have hat : lx_at b len (lxS b len en0) = ((lxS b len en0), (lxS b len en0) + 1, 4, 0) := by
              unfold lx_at
              rw [if_neg (by omega), if_neg hle, if_neg hdi, if_neg (by omega)]
            rw [up_row]
            refine k _ ((((NF.rf.u (by omega)).u (by omega)).u (by omega)).u (by omega)) ?_
            rw [hat]
            exact PG.mk0 (by simp [bc_u, q12]) (by simp [bc_u, q17]) (by simp [bc_u, q18]) (by simp [bc_u]) (by simp [bc_u]) (by simp [bc_u, mkd]) (fun z => absurd z (by decide))
          · refine wp_iconst eX9_next_232 ?_
            refine wp_goto eX9_next_233 ?_
            refine pf_X9_120 eX9_next_237 ?_
            refine wp_aload_n eX9_next_240 rfl ?_
            refine wp_dup eX9_next_241 ?_
            refine gf_X9_114 eX9_next_242 ?_
            rw [up_row, row_at, u_ne (by decide), u_ne (by decide), u_at]
            refine wp_iconst eX9_next_245 ?_
            refine wp_iadd eX9_next_246 ?_
            refine pf_X9_114 eX9_next_247 ?_
            refine wp_return eX9_next_250 ?_
            have hat : lx_at b len (lxS b len en0) = ((lxS b len en0), (lxS b len en0) + 1, 3, 0) := by
              unfold lx_at
              rw [if_neg (by omega), if_neg hle, if_neg hdi, if_pos (by omega)]
            rw [up_row]
            refine k _ ((((NF.rf.u (by omega)).u (by omega)).u (by omega)).u (by omega)) ?_
            rw [hat]
            exact PG.mk0 (by simp [bc_u, q12]) (by simp [bc_u, q17]) (by simp [bc_u, q18]) (by simp [bc_u]) (by simp [bc_u]) (by simp [bc_u, mkd]) (fun z => absurd z (by decide))
        · have hdi : lx_di (b (lxS b len en0)) = true := by
            apply Decidable.byContradiction
            intro h9
            rw [if_neg (fun z => h9 z.2)] at c125
            exact absurd rfl c125
          refine wp_aload_n eX9_next_128 rfl ?_
          refine wp_iconst eX9_next_129 ?_
          refine pf_X9_130 eX9_next_130 ?_
          rw [up_row]
          refine lp_nxD hb hs0 (len - (lxS b len en0)).toNat (lxS b len en0) (bc_u (bc_u (bc_u (M 33 0) 13 (lxS b len en0)) 14 (lxS b len en0)) 16 0) 0 (by omega) (by omega) (by rw [u_ne (by decide), u_ne (by decide), u_at]) (by rw [u_ne (by decide), u_ne (by decide), u_ne (by decide)]; exact q12) (by rw [u_ne (by decide), u_at]) (by rw [u_at]) hs0 ?_
          rw [show bc_u (bc_u (bc_u (bc_u (bc_u (M 33 0) 13 (lxS b len en0)) 14 (lxS b len en0)) 16 0) 13 (lx_run lx_di b len (len - (lxS b len en0)).toNat (lxS b len en0))) 16 (lx_num b len (lxS b len en0) (len - (lxS b len en0)).toNat (lxS b len en0) 0) = bc_u (bc_u (bc_u (bc_u (bc_u (M 33 0) 13 (lxS b len en0)) 14 (lxS b len en0)) 16 0) 13 (lxR lx_di b len (lxS b len en0))) 16 (lx_num b len (lxS b len en0) (len - (lxS b len en0)).toNat (lxS b len en0) 0) from rfl]
          refine wp_aload_n eX9_next_193 rfl ?_
          refine wp_aload_n eX9_next_194 rfl ?_
          refine gf_X9_114 eX9_next_195 ?_
          rw [row_at, u_ne (by decide), u_at]
          have hrr := lxR_r (P := lx_di) (b := b) (len := len) (p := (lxS b len en0)) hsr.2
          refine wp_aload_n eX9_next_198 rfl ?_
          refine gf_X9_117 eX9_next_199 ?_
          rw [row_at, u_ne (by decide), u_ne (by decide), u_ne (by decide), u_at]
          refine wp_isub eX9_next_202 ?_
          refine wp_iconst eX9_next_203 ?_
          refine wp_icmp_le eX9_next_204 (fun c204 => ?_) (fun c204 => ?_)
          · refine wp_iconst eX9_next_211 ?_
            refine pf_X9_120 eX9_next_212 ?_
            refine wp_goto eX9_next_215 ?_
            refine wp_return eX9_next_250 ?_
            have hat : lx_at b len (lxS b len en0) = ((lxS b len en0), lxR lx_di b len (lxS b len en0), 2, lx_num b len (lxS b len en0) (len - (lxS b len en0)).toNat (lxS b len en0) 0) := by
              unfold lx_at
              rw [if_neg (by omega), if_neg hle, if_pos hdi, if_pos (by omega)]
            rw [up_row]
            refine k _ ((((((NF.rf.u (by omega)).u (by omega)).u (by omega)).u (by omega)).u (by omega)).u (by omega)) ?_
            rw [hat]
            exact PG.mk0 (by simp [bc_u, q12]) (by simp [bc_u, q17]) (by simp [bc_u, q18]) (by simp [bc_u]) (by simp [bc_u]) (by simp [bc_u, mkd]) (fun _ => by simp [bc_u])
          · refine wp_iconst eX9_next_207 ?_
            refine wp_goto eX9_next_208 ?_
            refine pf_X9_120 eX9_next_212 ?_
            refine wp_goto eX9_next_215 ?_
            refine wp_return eX9_next_250 ?_
            have hat : lx_at b len (lxS b len en0) = ((lxS b len en0), lxR lx_di b len (lxS b len en0), 4, lx_num b len (lxS b len en0) (len - (lxS b len en0)).toNat (lxS b len en0) 0) := by
              unfold lx_at
              rw [if_neg (by omega), if_neg hle, if_pos hdi, if_neg (by omega)]
            rw [up_row]
            refine k _ ((((((NF.rf.u (by omega)).u (by omega)).u (by omega)).u (by omega)).u (by omega)).u (by omega)) ?_
            rw [hat]
            exact PG.mk0 (by simp [bc_u, q12]) (by simp [bc_u, q17]) (by simp [bc_u, q18]) (by simp [bc_u]) (by simp [bc_u]) (by simp [bc_u, mkd]) (fun z => absurd z (by decide))
      · have hle : lx_le (b (lxS b len en0)) = true := by
          apply Decidable.byContradiction
          intro h9
          rw [if_neg (fun z => h9 z.2)] at c82
          exact absurd rfl c82
        refine lp_nxL hb (len - (lxS b len en0)).toNat (lxS b len en0) (bc_u (bc_u (M 33 0) 13 (lxS b len en0)) 14 (lxS b len en0)) (by omega) (by omega) (by rw [u_ne (by decide), u_at]) (by rw [u_ne (by decide), u_ne (by decide)]; exact q12) ?_
        rw [show lx_run lx_le b len (len - (lxS b len en0)).toNat (lxS b len en0) = lxR lx_le b len (lxS b len en0) from rfl]
        refine wp_aload_n eX9_next_109 rfl ?_
        refine wp_iconst eX9_next_110 ?_
        refine pf_X9_120 eX9_next_111 ?_
        refine wp_goto eX9_next_114 ?_
        refine wp_return eX9_next_250 ?_
        have hat : lx_at b len (lxS b len en0) = ((lxS b len en0), lxR lx_le b len (lxS b len en0), 1, 0) := by unfold lx_at; rw [if_neg (by omega), if_pos hle]
        rw [up_row]
        refine k _ ((((NF.rf.u (by omega)).u (by omega)).u (by omega)).u (by omega)) ?_
        rw [hat]
        exact PG.mk0 (by simp [bc_u, q12]) (by simp [bc_u, q17]) (by simp [bc_u, q18]) (by simp [bc_u]) (by simp [bc_u]) (by simp [bc_u, mkd]) (fun z => absurd z (by decide))
    · refine wp_aload_n eX9_next_66 rfl ?_
      refine wp_iconst eX9_next_67 ?_
      refine pf_X9_120 eX9_next_68 ?_
      refine wp_goto eX9_next_71 ?_
      refine wp_return eX9_next_250 ?_
      have hat : lx_at b len (lxS b len en0) = ((lxS b len en0), (lxS b len en0), 0, 0) := by unfold lx_at; rw [if_pos (by omega)]
      rw [up_row]
      refine k _ (((NF.rf.u (by omega)).u (by omega)).u (by omega)) ?_
      rw [hat]
      exact PG.mk0 (by simp [bc_u, q12]) (by simp [bc_u, q17]) (by simp [bc_u, q18]) (by simp [bc_u]) (by simp [bc_u]) (by simp [bc_u, mkd]) (fun z => absurd z (by decide))
  · exact absurd (by decide) c4
def TI (D R g : Int → Int) (v : Int) : Prop := (∀ i, 0 ≤ i → i < v → g (0 + i) = D (6 + 3 * i) ∧ g (16 + i) = D (6 + 3 * i + 1) ∧ g (32 + i) = D (6 + 3 * i + 2)) ∧ ∀ q, ¬ (0 ≤ q ∧ q < v) → ¬ (16 ≤ q ∧ q < 16 + v) → ¬ (32 ≤ q ∧ q < 32 + v) → g q = R q
theorem TI.st {D R g : Int → Int} {v : Int} (h : TI D R g v) (hv : 0 ≤ v ∧ v < 16) : TI D R (bc_u (bc_u (bc_u g (0 + v) (D (6 + 3 * v))) (16 + v) (D (6 + 3 * v + 1))) (32 + v) (D (6 + 3 * v + 2))) (v + 1) := by
  refine ⟨fun i a b => ?_, fun q a b c => ?_⟩
  · by_cases e : i = v
    · subst e
      rw [u_ne (show (0 : Int) + i ≠ 32 + i by omega), u_ne (show (0 : Int) + i ≠ 16 + i by omega), u_at, u_ne (show 16 + i ≠ 32 + i by omega), u_at, u_at]
      exact ⟨rfl, rfl, rfl⟩
    · rw [u_ne (show (0 : Int) + i ≠ 32 + v by omega), u_ne (show (0 : Int) + i ≠ 16 + v by omega), u_ne (show (0 : Int) + i ≠ 0 + v by omega), u_ne (show 16 + i ≠ 32 + v by omega), u_ne (show 16 + i ≠ 16 + v by omega), u_ne (show 16 + i ≠ 0 + v by omega), u_ne (show 32 + i ≠ 32 + v by omega), u_ne (show 32 + i ≠ 16 + v by omega), u_ne (show 32 + i ≠ 0 + v by omega)]
      exact h.1 i a (by omega)
  · rw [u_ne (by omega), u_ne (by omega), u_ne (by omega)]
    exact h.2 q (by omega) (by omega) (by omega)
/-- what taking over leaves -/
def TK (M M' : bc_M) (nd ni nc : Int) (D : Int → Int) : Prop := Fr (fun k' j' => (k' = 33 ∨ k' = 34 ∨ k' = 36 ∨ k' = 37) ∧ j' = 0) M M' ∧ (∀ f, f ≠ 2 → f ≠ 3 → f ≠ 5 → f ≠ 6 → f ≠ 7 → M' 33 0 f = M 33 0 f) ∧ (M' 33 0 2 = 0 ∧ M' 33 0 3 = 1 ∧ M' 33 0 5 = nd ∧ M' 33 0 6 = ni ∧ M' 33 0 7 = nc) ∧ (M' 34 0 52 = D 0 ∧ M' 34 0 53 = D 1) ∧ (∀ x, 0 ≤ x → x < 4 → M' 34 0 (48 + x) = if x < nd then D (2 + x) else 0) ∧ (∀ i, 0 ≤ i → i < 16 → M' 34 0 (0 + i) = (if i < ni then D (6 + 3 * i) else 0) ∧ M' 34 0 (16 + i) = (if i < ni then D (6 + 3 * i + 1) else 0) ∧ M' 34 0 (32 + i) = (if i < ni then D (6 + 3 * i + 2) else 0)) ∧ (∀ q, 54 ≤ q → q < 206 → M' 34 0 q = 0) ∧ ∀ x, 0 ≤ x → x < nc → M' 36 0 x = D (54 + 2 * x) ∧ M' 37 0 x = D (54 + 2 * x + 1)
theorem lp_tkF {G : bc_G} {M : bc_M} {post : bc_R → bc_M → Prop} {R : Int → Int} : ∀ (n : Nat) (v : Int) (h1 : v + n = 206) (h2 : 0 ≤ v) (k : bc_W G RX9 cX9_takeOver 2 none 2 0 0 56 [some (vR G 33 0), some (vI 206)] [] (bc_row M 34 0 (cpF R (fun _ => 0) 0 206)) post), bc_W G RX9 cX9_takeOver 2 none 2 0 0 36 [some (vR G 33 0), some (vI v)] [] (bc_row M 34 0 (cpF R (fun _ => 0) 0 v)) post := by
  intro n
  induction n with
  | zero =>
    intro v h1 h2 k
    refine wp_iload_n eX9_takeOver_36 rfl ?_
    refine wp_sipush eX9_takeOver_37 ?_
    refine wp_icmp_ge eX9_takeOver_40 (fun c40 => ?_) (fun c40 => ?_)
    · have hv : v = 206 := by omega
      subst hv
      exact k
    · omega
  | succ n ih =>
    intro v h1 h2 k
    refine wp_iload_n eX9_takeOver_36 rfl ?_
    refine wp_sipush eX9_takeOver_37 ?_
    refine wp_icmp_ge eX9_takeOver_40 (fun c40 => ?_) (fun c40 => ?_)
    · omega
    · refine wp_aload_n eX9_takeOver_43 rfl ?_
      refine gf_X9_7 eX9_takeOver_44 ?_
      refine wp_iload_n eX9_takeOver_47 rfl ?_
      refine wp_iconst eX9_takeOver_48 ?_
      refine as_34 eX9_takeOver_49 ?_
      refine inc_1 eX9_takeOver_50 ?_
      refine wp_goto eX9_takeOver_53 ?_
      rw [up_row]
      have e9 := cpF_st (g := R) (h := fun _ => 0) (b := 0) (n := v) h2
      rw [Int.zero_add] at e9
      rw [e9]
      exact ih (v + 1) (by omega) (by omega) k
theorem lp_tkD {G : bc_G} {M : bc_M} {post : bc_R → bc_M → Prop} {R D : Int → Int} {nd : Int} (hnd : 0 ≤ nd ∧ nd ≤ 4) (e5 : M 33 0 5 = nd) (e39 : M 39 0 = D) : ∀ (n : Nat) (v : Int) (h1 : v + n = nd) (h2 : 0 ≤ v) (k : bc_W G RX9 cX9_takeOver 2 none 2 0 0 115 [some (vR G 33 0), some (vI nd)] [] (bc_row M 34 0 (cpF R (fun x => D (2 + x)) 48 nd)) post), bc_W G RX9 cX9_takeOver 2 none 2 0 0 84 [some (vR G 33 0), some (vI v)] [] (bc_row M 34 0 (cpF R (fun x => D (2 + x)) 48 v)) post := by
  intro n
  induction n with
  | zero =>
    intro v h1 h2 k
    refine wp_iload_n eX9_takeOver_84 rfl ?_
    refine wp_aload_n eX9_takeOver_85 rfl ?_
    refine gf_X9_72 eX9_takeOver_86 ?_
    rw [row_kne (by decide), e5]
    refine wp_icmp_ge eX9_takeOver_89 (fun c89 => ?_) (fun c89 => ?_)
    · have hv : v = nd := by omega
      subst hv
      exact k
    · omega
  | succ n ih =>
    intro v h1 h2 k
    refine wp_iload_n eX9_takeOver_84 rfl ?_
    refine wp_aload_n eX9_takeOver_85 rfl ?_
    refine gf_X9_72 eX9_takeOver_86 ?_
    rw [row_kne (by decide), e5]
    refine wp_icmp_ge eX9_takeOver_89 (fun c89 => ?_) (fun c89 => ?_)
    · omega
    · refine wp_aload_n eX9_takeOver_92 rfl ?_
      refine gf_X9_7 eX9_takeOver_93 ?_
      refine wp_bipush eX9_takeOver_96 ?_
      refine wp_iload_n eX9_takeOver_98 rfl ?_
      refine wp_iadd eX9_takeOver_99 ?_
      refine wp_aload_n eX9_takeOver_100 rfl ?_
      refine gf_X9_29 eX9_takeOver_101 ?_
      refine wp_iconst eX9_takeOver_104 ?_
      refine wp_iload_n eX9_takeOver_105 rfl ?_
      refine wp_iadd eX9_takeOver_106 ?_
      refine al_39 eX9_takeOver_107 ?_
      rw [row_kne (by decide), e39]
      refine as_34 eX9_takeOver_108 ?_
      refine inc_1 eX9_takeOver_109 ?_
      refine wp_goto eX9_takeOver_112 ?_
      rw [up_row]
      have e9 := cpF_st (g := R) (h := fun x => D (2 + x)) (b := 48) (n := v) h2
      rw [e9]
      exact ih (v + 1) (by omega) (by omega) k
theorem lp_tkI {G : bc_G} {M : bc_M} {post : bc_R → bc_M → Prop} {R D : Int → Int} {ni : Int} (hni : 0 ≤ ni ∧ ni ≤ 16) (e6 : M 33 0 6 = ni) (e39 : M 39 0 = D) : ∀ (n : Nat) (v : Int) (g : Int → Int) (h1 : v + n = ni) (h2 : 0 ≤ v) (hT : TI D R g v) (k : ∀ g9 : Int → Int, TI D R g9 ni → bc_W G RX9 cX9_takeOver 2 none 2 0 0 194 [some (vR G 33 0), some (vI ni)] [] (bc_row M 34 0 g9) post), bc_W G RX9 cX9_takeOver 2 none 2 0 0 117 [some (vR G 33 0), some (vI v)] [] (bc_row M 34 0 g) post := by
  intro n
  induction n with
  | zero =>
    intro v g h1 h2 hT k
    refine wp_iload_n eX9_takeOver_117 rfl ?_
    refine wp_aload_n eX9_takeOver_118 rfl ?_
    refine gf_X9_79 eX9_takeOver_119 ?_
    rw [row_kne (by decide), e6]
    refine wp_icmp_ge eX9_takeOver_122 (fun c122 => ?_) (fun c122 => ?_)
    · have hv : v = ni := by omega
      subst hv
      exact k _ hT
    · omega
  | succ n ih =>
    intro v g h1 h2 hT k
    refine wp_iload_n eX9_takeOver_117 rfl ?_
    refine wp_aload_n eX9_takeOver_118 rfl ?_
    refine gf_X9_79 eX9_takeOver_119 ?_
    rw [row_kne (by decide), e6]
    refine wp_icmp_ge eX9_takeOver_122 (fun c122 => ?_) (fun c122 => ?_)
    · omega
    · refine wp_aload_n eX9_takeOver_125 rfl ?_
      refine gf_X9_7 eX9_takeOver_126 ?_
      refine wp_iconst eX9_takeOver_129 ?_
      refine wp_iload_n eX9_takeOver_130 rfl ?_
      refine wp_iadd eX9_takeOver_131 ?_
      refine wp_aload_n eX9_takeOver_132 rfl ?_
      refine gf_X9_29 eX9_takeOver_133 ?_
      refine wp_bipush eX9_takeOver_136 ?_
      refine wp_iconst eX9_takeOver_138 ?_
      refine wp_iload_n eX9_takeOver_139 rfl ?_
      refine wp_imul eX9_takeOver_140 ?_
      refine wp_iadd eX9_takeOver_141 ?_
      refine al_39 eX9_takeOver_142 ?_
      rw [row_kne (by decide), e39]
      refine as_34 eX9_takeOver_143 ?_
      refine wp_aload_n eX9_takeOver_144 rfl ?_
      refine gf_X9_7 eX9_takeOver_145 ?_
      refine wp_bipush eX9_takeOver_148 ?_
      refine wp_iload_n eX9_takeOver_150 rfl ?_
      refine wp_iadd eX9_takeOver_151 ?_
      refine wp_aload_n eX9_takeOver_152 rfl ?_
      refine gf_X9_29 eX9_takeOver_153 ?_
      refine wp_bipush eX9_takeOver_156 ?_
      refine wp_iconst eX9_takeOver_158 ?_
      refine wp_iload_n eX9_takeOver_159 rfl ?_
      refine wp_imul eX9_takeOver_160 ?_
      refine wp_iadd eX9_takeOver_161 ?_
      refine wp_iconst eX9_takeOver_162 ?_
      refine wp_iadd eX9_takeOver_163 ?_
      refine al_39 eX9_takeOver_164 ?_
      rw [up_kne (by decide), row_kne (by decide), e39]
      refine as_34 eX9_takeOver_165 ?_
      refine wp_aload_n eX9_takeOver_166 rfl ?_
      refine gf_X9_7 eX9_takeOver_167 ?_
      refine wp_bipush eX9_takeOver_170 ?_
      refine wp_iload_n eX9_takeOver_172 rfl ?_
      refine wp_iadd eX9_takeOver_173 ?_
      refine wp_aload_n eX9_takeOver_174 rfl ?_
      refine gf_X9_29 eX9_takeOver_175 ?_
      refine wp_bipush eX9_takeOver_178 ?_
      refine wp_iconst eX9_takeOver_180 ?_
      refine wp_iload_n eX9_takeOver_181 rfl ?_
      refine wp_imul eX9_takeOver_182 ?_
      refine wp_iadd eX9_takeOver_183 ?_
      refine wp_iconst eX9_takeOver_184 ?_
      refine wp_iadd eX9_takeOver_185 ?_
      refine al_39 eX9_takeOver_186 ?_
      rw [up_kne (by decide), up_kne (by decide), row_kne (by decide), e39]
      refine as_34 eX9_takeOver_187 ?_
      refine inc_1 eX9_takeOver_188 ?_
      refine wp_goto eX9_takeOver_191 ?_
      rw [up_row, up_row, up_row]
      exact ih (v + 1) _ (by omega) (by omega) (hT.st (by omega)) k
theorem lp_tkC {G : bc_G} {M : bc_M} {post : bc_R → bc_M → Prop} {A B D : Int → Int} {nc : Int} (hnc : 0 ≤ nc ∧ nc ≤ 4) (e7 : M 33 0 7 = nc) (e39 : M 39 0 = D) : ∀ (n : Nat) (v : Int) (h1 : v + n = nc) (h2 : 0 ≤ v) (k : post (.inr none) (bc_row (bc_row M 36 0 (cpF A (fun x => D (54 + 2 * x)) 0 nc)) 37 0 (cpF B (fun x => D (54 + 2 * x + 1)) 0 nc))), bc_W G RX9 cX9_takeOver 2 none 2 0 0 196 [some (vR G 33 0), some (vI v)] [] (bc_row (bc_row M 36 0 (cpF A (fun x => D (54 + 2 * x)) 0 v)) 37 0 (cpF B (fun x => D (54 + 2 * x + 1)) 0 v)) post := by
  intro n
  induction n with
  | zero =>
    intro v h1 h2 k
    refine wp_iload_n eX9_takeOver_196 rfl ?_
    refine wp_aload_n eX9_takeOver_197 rfl ?_
    refine gf_X9_82 eX9_takeOver_198 ?_
    rw [row_kne (by decide), row_kne (by decide), e7]
    refine wp_icmp_ge eX9_takeOver_201 (fun c201 => ?_) (fun c201 => ?_)
    · have hv : v = nc := by omega
      subst hv
      refine wp_return eX9_takeOver_246 ?_
      exact k
    · omega
  | succ n ih =>
    intro v h1 h2 k
    refine wp_iload_n eX9_takeOver_196 rfl ?_
    refine wp_aload_n eX9_takeOver_197 rfl ?_
    refine gf_X9_82 eX9_takeOver_198 ?_
    rw [row_kne (by decide), row_kne (by decide), e7]
    refine wp_icmp_ge eX9_takeOver_201 (fun c201 => ?_) (fun c201 => ?_)
    · omega
    · refine wp_aload_n eX9_takeOver_204 rfl ?_
      refine gf_X9_16 eX9_takeOver_205 ?_
      refine wp_iload_n eX9_takeOver_208 rfl ?_
      refine wp_aload_n eX9_takeOver_209 rfl ?_
      refine gf_X9_29 eX9_takeOver_210 ?_
      refine wp_bipush eX9_takeOver_213 ?_
      refine wp_iconst eX9_takeOver_215 ?_
      refine wp_iload_n eX9_takeOver_216 rfl ?_
      refine wp_imul eX9_takeOver_217 ?_
      refine wp_iadd eX9_takeOver_218 ?_
      refine al_39 eX9_takeOver_219 ?_
      rw [row_kne (by decide), row_kne (by decide), e39]
      refine as_36 eX9_takeOver_220 ?_
      refine wp_aload_n eX9_takeOver_221 rfl ?_
      refine gf_X9_19 eX9_takeOver_222 ?_
      refine wp_iload_n eX9_takeOver_225 rfl ?_
      refine wp_aload_n eX9_takeOver_226 rfl ?_
      refine gf_X9_29 eX9_takeOver_227 ?_
      refine wp_bipush eX9_takeOver_230 ?_
      refine wp_iconst eX9_takeOver_232 ?_
      refine wp_iload_n eX9_takeOver_233 rfl ?_
      refine wp_imul eX9_takeOver_234 ?_
      refine wp_iadd eX9_takeOver_235 ?_
      refine wp_iconst eX9_takeOver_236 ?_
      refine wp_iadd eX9_takeOver_237 ?_
      refine al_39 eX9_takeOver_238 ?_
      rw [up_kne (by decide), row_kne (by decide), row_kne (by decide), e39]
      refine as_37 eX9_takeOver_239 ?_
      refine inc_1 eX9_takeOver_240 ?_
      refine wp_goto eX9_takeOver_243 ?_
      rw [up_row_c (k := 37) (k2 := 36) (by decide), up_row, up_row]
      have e8 := cpF_st (g := A) (h := fun x => D (54 + 2 * x)) (b := 0) (n := v) h2
      have e9 := cpF_st (g := B) (h := fun x => D (54 + 2 * x + 1)) (b := 0) (n := v) h2
      rw [Int.zero_add] at e8 e9
      rw [e8, e9]
      exact ih (v + 1) (by omega) (by omega) k
set_option maxHeartbeats 1000000 in
theorem ct_takeOver {G : bc_G} {M : bc_M} {post : bc_R → bc_M → Prop} {nd ni nc : Int} {D : Int → Int} (h20 : M 33 0 20 = nd) (h21 : M 33 0 21 = ni) (h22 : M 33 0 22 = nc) (h39 : M 39 0 = D) (hnd : 0 ≤ nd ∧ nd ≤ 4) (hni : 0 ≤ ni ∧ ni ≤ 16) (hnc : 0 ≤ nc ∧ nc ≤ 4) (k : ∀ M' : bc_M, TK M M' nd ni nc D → post (.inr none) M') : bc_Call G yX9_takeOver cX9_takeOver 2 none 2 0 [vR G 33 0] M post := by
  refine bc_enter (L := [some (vR G 33 0), none]) (by decide) rfl rfl ?_
  refine wp_aload_n eX9_takeOver_0 rfl ?_
  refine wp_iconst eX9_takeOver_1 ?_
  refine pf_X9_68 eX9_takeOver_2 (by decide) ?_
  refine wp_aload_n eX9_takeOver_5 rfl ?_
  refine wp_iconst eX9_takeOver_6 ?_
  refine pf_X9_198 eX9_takeOver_7 ?_
  refine wp_aload_n eX9_takeOver_10 rfl ?_
  refine wp_aload_n eX9_takeOver_11 rfl ?_
  refine gf_X9_162 eX9_takeOver_12 ?_
  rw [up_v, if_neg (by decide), up_v, if_neg (by decide), h20]
  refine pf_X9_72 eX9_takeOver_15 ?_
  refine wp_aload_n eX9_takeOver_18 rfl ?_
  refine wp_aload_n eX9_takeOver_19 rfl ?_
  refine gf_X9_167 eX9_takeOver_20 ?_
  rw [up_v, if_neg (by decide), up_v, if_neg (by decide), up_v, if_neg (by decide), h21]
  refine pf_X9_79 eX9_takeOver_23 ?_
  refine wp_aload_n eX9_takeOver_26 rfl ?_
  refine wp_aload_n eX9_takeOver_27 rfl ?_
  refine gf_X9_172 eX9_takeOver_28 ?_
  rw [up_v, if_neg (by decide), up_v, if_neg (by decide), up_v, if_neg (by decide), up_v, if_neg (by decide), h22]
  refine pf_X9_82 eX9_takeOver_31 ?_
  refine wp_iconst eX9_takeOver_34 ?_
  refine ist_1 eX9_takeOver_35 ?_
  generalize hM1 : (bc_up (bc_up (bc_up (bc_up (bc_up M 33 0 3 1) 33 0 2 0) 33 0 5 nd) 33 0 6 ni) 33 0 7 nc) = M1
  have v_ : ∀ f, M1 33 0 f = if f = 7 then nc else if f = 6 then ni else if f = 5 then nd else if f = 2 then 0 else if f = 3 then 1 else M 33 0 f := fun f => by rw [← hM1, up_v, up_v, up_v, up_v, up_v]
  have m5 : M1 33 0 5 = nd := by rw [v_ 5]; rfl
  have m6 : M1 33 0 6 = ni := by rw [v_ 6]; rfl
  have m7 : M1 33 0 7 = nc := by rw [v_ 7]; rfl
  have m2 : M1 33 0 2 = 0 := by rw [v_ 2]; rfl
  have m3 : M1 33 0 3 = 1 := by rw [v_ 3]; rfl
  have mf : ∀ f, f ≠ 2 → f ≠ 3 → f ≠ 5 → f ≠ 6 → f ≠ 7 → M1 33 0 f = M 33 0 f := fun f a b c d e => by rw [v_ f, if_neg e, if_neg d, if_neg c, if_neg a, if_neg b]
  have m0 : Fr (fun k' j' => (k' = 33 ∨ k' = 34 ∨ k' = 36 ∨ k' = 37) ∧ j' = 0) M M1 := by
    rw [← hM1]
    exact Fr.tr (Fr.tr (Fr.tr (Fr.tr (Fr.up ⟨Or.inl rfl, rfl⟩) (Fr.up ⟨Or.inl rfl, rfl⟩)) (Fr.up ⟨Or.inl rfl, rfl⟩)) (Fr.up ⟨Or.inl rfl, rfl⟩)) (Fr.up ⟨Or.inl rfl, rfl⟩)
  have m39 : M1 39 0 = D := by rw [m0 39 0 (by omega)]; exact h39
  have m34 : M1 34 0 = M 34 0 := by rw [← hM1, up_kne (by decide), up_kne (by decide), up_kne (by decide), up_kne (by decide), up_kne (by decide)]
  have eW : bc_row M1 34 0 (cpF (M 34 0) (fun _ => 0) 0 0) = M1 := by rw [cpF0, ← m34, row_self]
  rw [← eW]
  refine lp_tkF 206 0 (by omega) (by omega) ?_
  refine wp_aload_n eX9_takeOver_56 rfl ?_
  refine gf_X9_7 eX9_takeOver_57 ?_
  refine wp_bipush eX9_takeOver_60 ?_
  refine wp_aload_n eX9_takeOver_62 rfl ?_
  refine gf_X9_29 eX9_takeOver_63 ?_
  refine wp_iconst eX9_takeOver_66 ?_
  refine al_39 eX9_takeOver_67 ?_
  rw [row_kne (by decide), m39]
  refine as_34 eX9_takeOver_68 ?_
  rw [up_row]
  refine wp_aload_n eX9_takeOver_69 rfl ?_
  refine gf_X9_7 eX9_takeOver_70 ?_
  refine wp_bipush eX9_takeOver_73 ?_
  refine wp_aload_n eX9_takeOver_75 rfl ?_
  refine gf_X9_29 eX9_takeOver_76 ?_
  refine wp_iconst eX9_takeOver_79 ?_
  refine al_39 eX9_takeOver_80 ?_
  rw [row_kne (by decide), m39]
  refine as_34 eX9_takeOver_81 ?_
  rw [up_row]
  refine wp_iconst eX9_takeOver_82 ?_
  refine ist_1 eX9_takeOver_83 ?_
  rw [show bc_u (bc_u (cpF (M 34 0) (fun _ => 0) 0 206) 52 (D 0)) 53 (D 1) = cpF (bc_u (bc_u (cpF (M 34 0) (fun _ => 0) 0 206) 52 (D 0)) 53 (D 1)) (fun x => D (2 + x)) 48 0 from cpF0.symm]
  refine lp_tkD hnd m5 m39 nd.toNat 0 (by omega) (by omega) ?_
  refine wp_iconst eX9_takeOver_115 ?_
  refine ist_1 eX9_takeOver_116 ?_
  refine lp_tkI (R := (cpF (bc_u (bc_u (cpF (M 34 0) (fun _ => 0) 0 206) 52 (D 0)) 53 (D 1)) (fun x => D (2 + x)) 48 nd)) hni m6 m39 ni.toNat 0 _ (by omega) (by omega) ⟨fun i a b => by omega, fun q _ _ _ => rfl⟩ (fun g9 hT => ?_)
  refine wp_iconst eX9_takeOver_194 ?_
  refine ist_1 eX9_takeOver_195 ?_
  have eW : bc_row (bc_row (bc_row M1 34 0 g9) 36 0 (cpF (M1 36 0) (fun x => D (54 + 2 * x)) 0 0)) 37 0 (cpF (M1 37 0) (fun x => D (54 + 2 * x + 1)) 0 0) = bc_row M1 34 0 g9 := by
    rw [cpF0, cpF0]
    have e1 : bc_row (bc_row M1 34 0 g9) 36 0 (M1 36 0) = bc_row M1 34 0 g9 := by
      have := @row_self (bc_row M1 34 0 g9) 36 0
      rw [row_kne (by decide)] at this
      exact this
    rw [e1]
    have := @row_self (bc_row M1 34 0 g9) 37 0
    rw [row_kne (by decide)] at this
    exact this
  rw [← eW]
  refine lp_tkC hnc (by rw [row_kne (by decide)]; exact m7) (by rw [row_kne (by decide)]; exact m39) nc.toNat 0 (by omega) (by omega) ?_
  have r34 : ∀ A B : Int → Int, bc_row (bc_row (bc_row M1 34 0 g9) 36 0 A) 37 0 B 34 0 = g9 := fun A B => by rw [row_kne (by decide), row_kne (by decide), row_at]
  have r33 : ∀ A B : Int → Int, bc_row (bc_row (bc_row M1 34 0 g9) 36 0 A) 37 0 B 33 0 = M1 33 0 := fun A B => by rw [row_kne (by decide), row_kne (by decide), row_kne (by decide)]
  have rz : ∀ q, 54 ≤ q → q < 206 → (cpF (bc_u (bc_u (cpF (M 34 0) (fun _ => 0) 0 206) 52 (D 0)) 53 (D 1)) (fun x => D (2 + x)) 48 nd) q = 0 := fun q a b => by
    unfold cpF
    rw [if_neg (by omega), u_ne (by omega), u_ne (by omega), if_pos (by omega)]
  refine k _ ⟨Fr.tr m0 (Fr.tr (Fr.tr (row_fr.mono (fun k9 j9 q => by unfold at1 at q; exact ⟨by omega, q.2⟩)) (row_fr.mono (fun k9 j9 q => by unfold at1 at q; exact ⟨by omega, q.2⟩))) (row_fr.mono (fun k9 j9 q => by unfold at1 at q; exact ⟨by omega, q.2⟩))), fun f a b c d e => by rw [r33]; exact mf f a b c d e, ⟨by rw [r33]; exact m2, by rw [r33]; exact m3, by rw [r33]; exact m5, by rw [r33]; exact m6, by rw [r33]; exact m7⟩, ⟨?_, ?_⟩, fun x a b => ?_, fun i a b => ⟨?_, ?_, ?_⟩, fun q a b => ?_, fun x a b => ⟨?_, ?_⟩⟩
  · rw [r34, hT.2 52 (by omega) (by omega) (by omega)]
    unfold cpF
    rw [if_neg (by omega), u_ne (by decide), u_at]
  · rw [r34, hT.2 53 (by omega) (by omega) (by omega)]
    unfold cpF
    rw [if_neg (by omega), u_at]
  · rw [r34, hT.2 (48 + x) (by omega) (by omega) (by omega)]
    unfold cpF
    by_cases h9 : x < nd
    · rw [if_pos (by omega), if_pos h9, show 48 + x - 48 = x by omega]
    · rw [if_neg (by omega), if_neg h9, u_ne (by omega), u_ne (by omega), if_pos (by omega)]
  · rw [r34]
    by_cases h9 : i < ni
    · rw [if_pos h9]; exact (hT.1 i a h9).1
    · rw [if_neg h9, hT.2 (0 + i) (by omega) (by omega) (by omega)]
      unfold cpF
      rw [if_neg (by omega), u_ne (by omega), u_ne (by omega), if_pos (by omega)]
  · rw [r34]
    by_cases h9 : i < ni
    · rw [if_pos h9]; exact (hT.1 i a h9).2.1
    · rw [if_neg h9, hT.2 (16 + i) (by omega) (by omega) (by omega)]
      unfold cpF
      rw [if_neg (by omega), u_ne (by omega), u_ne (by omega), if_pos (by omega)]
  · rw [r34]
    by_cases h9 : i < ni
    · rw [if_pos h9]; exact (hT.1 i a h9).2.2
    · rw [if_neg h9, hT.2 (32 + i) (by omega) (by omega) (by omega)]
      unfold cpF
      rw [if_neg (by omega), u_ne (by omega), u_ne (by omega), if_pos (by omega)]
  · rw [r34, hT.2 q (by omega) (by omega) (by omega)]; exact rz q a b
  · rw [row_kne (by decide), row_at]
    unfold cpF
    rw [if_pos (by omega), show x - 0 = x by omega]
  · rw [row_at]
    unfold cpF
    rw [if_pos (by omega), show x - 0 = x by omega]
