/-- the model's fields and its draft -/
def ME (M : bc_M) (g D : Int → Int) : bc_M := bc_row (bc_row M 33 0 g) 39 0 D
theorem ME_self {M : bc_M} : ME M (M 33 0) (M 39 0) = M := by
  unfold ME
  rw [row_self]
  exact row_self
theorem ME_33 {M : bc_M} {g D : Int → Int} : ME M g D 33 0 = g := by unfold ME; rw [row_kne (by decide), row_at]
theorem ME_39 {M : bc_M} {g D : Int → Int} : ME M g D 39 0 = D := by unfold ME; rw [row_at]
theorem row_sw {M : bc_M} {k k' : Nat} {j j' : Int} {g h : Int → Int} (hk : k ≠ k') : bc_row (bc_row M k j g) k' j' h = bc_row (bc_row M k' j' h) k j g := by
  funext x y
  simp only [bc_row]
  by_cases a : x = k ∧ y = j
  · simp only [if_neg (show ¬ (x = k' ∧ y = j') by omega), if_pos a]
  · simp only [if_neg a]
theorem ME_g {M : bc_M} {g D g' : Int → Int} : bc_row (ME M g D) 33 0 g' = ME M g' D := by
  unfold ME
  rw [row_sw (by decide), row_row]
theorem ME_d {M : bc_M} {g D : Int → Int} {i v : Int} : bc_up (ME M g D) 39 0 i v = ME M g (bc_u D i v) := by unfold ME; rw [up_row]
theorem ME_f {M : bc_M} {g D : Int → Int} {f v : Int} : bc_up (ME M g D) 33 0 f v = ME M (bc_u g f v) D := by
  unfold ME
  rw [up_row_c (by decide), up_row]
theorem ME_bt {M : bc_M} {b g D : Int → Int} {len : Int} (h : BT M b len) : BT (ME M g D) b len := (h.row (by decide)).row (by decide)
theorem p_n_0 {b : Int → Int} {len lo hi : Int} {σ : bl_s} (h : (p_n b len lo hi σ).1 = 0) : σ.1 = 0 := by
  apply Decidable.byContradiction
  intro q
  rw [p_n_e q] at h
  exact q h
theorem p_s_0 {b : Int → Int} {len : Int} {σ : bl_s} (h : (p_s b len σ).1 = 0) : σ.1 = 0 := by
  apply Decidable.byContradiction
  intro q
  rw [p_s_e q] at h
  exact q h
theorem p_a_0 {b : Int → Int} {len : Int} {σ : bl_s} (h : (p_a b len σ).1 = 0) : σ.1 = 0 := by
  apply Decidable.byContradiction
  intro q
  rw [p_a_e q] at h
  exact q h
/-- index: the token behind the keyword -/
def p_k (b : Int → Int) (len : Int) (ti : Nat) (σ : bl_s) : bl_s := p_a b len (if p_w b ti σ = true then σ else p_f 1 σ)
def p_ix (b : Int → Int) (len : Int) (σ : bl_s) : bl_s := p_s b len (p_n b len 1 4 (p_n b len 0 8 (p_k b len 0 σ)))
def ixD (b : Int → Int) (len : Int) (σ : bl_s) (D : Int → Int) : Int → Int := bc_u (bc_u D 0 (p_k b len 0 σ).2.2.2.2) 1 (p_n b len 0 8 (p_k b len 0 σ)).2.2.2.2
def dkL (b : Int → Int) (len : Int) : Nat → Int → bl_s → (Int → Int) → bl_s × Int × (Int → Int)
  | 0, c, σ, D => (σ, c, D)
  | n + 1, c, σ, D => if p_w b 1 σ = true then (if c = 4 then (p_f 3 σ, c, D) else dkL b len n (c + 1) (p_s b len (p_n b len 1 6 (p_a b len σ))) (bc_u D (2 + c) (p_a b len σ).2.2.2.2)) else ((if c = 0 then p_f 1 σ else σ), c, D)
def itL (b : Int → Int) (len nd : Int) : Nat → Int → bl_s → (Int → Int) → bl_s × Int × (Int → Int)
  | 0, c, σ, D => (σ, c, D)
  | n + 1, c, σ, D => if p_w b 2 σ = true then (if c = 16 then (p_f 3 σ, c, D) else itL b len nd n (c + 1) (p_s b len (p_n b len 0 999 (p_n b len 0 (nd - 1) (p_n b len 0 99 (p_a b len σ))))) (bc_u (bc_u (bc_u D (6 + 3 * c) (p_a b len σ).2.2.2.2) (6 + 3 * c + 1) (p_n b len 0 99 (p_a b len σ)).2.2.2.2) (6 + 3 * c + 2) (p_n b len 0 (nd - 1) (p_n b len 0 99 (p_a b len σ))).2.2.2.2)) else ((if c = 0 then p_f 1 σ else σ), c, D)
/-- the policy's word -/
def p_po (b : Int → Int) (σ : bl_s) : Int := if p_w b 6 σ = true then 0 else if p_w b 4 σ = true then 1 else if p_w b 5 σ = true then 2 else -1
def p_pa (b : Int → Int) (len : Int) (σ : bl_s) : bl_s := p_a b len (if p_po b σ < 0 then p_f 1 σ else σ)
def clL (b : Int → Int) (len : Int) : Nat → Int → bl_s → (Int → Int) → bl_s × Int × (Int → Int)
  | 0, c, σ, D => (σ, c, D)
  | n + 1, c, σ, D => if p_w b 3 σ = true then (if c = 4 then (p_f 3 σ, c, D) else clL b len n (c + 1) (p_s b len (p_pa b len (p_n b len 0 4 (p_a b len σ)))) (bc_u (bc_u D (54 + 2 * c) (p_a b len σ).2.2.2.2) (54 + 2 * c + 1) (p_po b (p_n b len 0 4 (p_a b len σ))))) else (σ, c, D)
theorem ct_readIndex {G : bc_G} {M : bc_M} {post : bc_R → bc_M → Prop} {b : Int → Int} {len : Int} (hb : BT M b len) {σ : bl_s} (hP : PG (M 33 0) len σ) (hσ : SG len σ) (k : ∀ g' D' : Int → Int, NF (M 33 0) g' → PG g' len (p_ix b len σ) → ((p_ix b len σ).1 = 0 → ∀ q, 0 ≤ q → q < 62 → D' q = ixD b len σ (M 39 0) q) → post (.inr none) (ME M g' D')) : bc_Call G yX9_readIndex cX9_readIndex 1 none 6 0 [vR G 33 0] M post := by
  refine bc_enter (L := [some (vR G 33 0)]) (by decide) rfl rfl ?_
  rw [show M = ME M (M 33 0) (M 39 0) from ME_self.symm]
  refine wp_aload_n eX9_readIndex_0 rfl ?_
  refine wp_ldcS (ti := 0) (tx := "index") eX9_readIndex_1 (by decide +kernel) ?_
  refine c_X9_151 eX9_readIndex_3 (ct_isWord (ME_bt hb) (by rw [ME_33]; exact hP) hσ (ti := 0) (by decide) ?_)
  refine wp_if_ne eX9_readIndex_6 (fun c6 => ?_) (fun c6 => ?_) (by split <;> omega)
  · have hw : p_w b 0 σ = true := by
      apply Decidable.byContradiction
      intro h9
      rw [if_neg h9] at c6
      exact absurd rfl c6
    have n1 : NF (M 33 0) (M 33 0) := NF.rf
    have p1 := hP
    have s1 := hσ
    have hpk : p_a b len σ = p_k b len 0 σ := by unfold p_k; rw [if_pos hw]
    refine wp_aload_n eX9_readIndex_14 rfl ?_
    refine c_X9_146 eX9_readIndex_15 (ct_next (ME_bt hb) (by rw [ME_33]; exact p1) s1 (fun g2 n2 p2 => ?_))
    rw [ME_33] at n2
    rw [ME_g]
    rw [hpk] at p2
    have s2 : SG len (p_k b len 0 σ) := by rw [← hpk]; exact s1.a
    refine wp_aload_n eX9_readIndex_18 rfl ?_
    refine gf_X9_29 eX9_readIndex_19 ?_
    refine wp_iconst eX9_readIndex_22 ?_
    refine wp_aload_n eX9_readIndex_23 rfl ?_
    refine wp_iconst eX9_readIndex_24 ?_
    refine wp_bipush eX9_readIndex_25 ?_
    refine c_X9_155 eX9_readIndex_27 (ct_read (by decide) (by decide) (ME_bt hb) (by rw [ME_33]; exact p2) s2 (fun g3 n3 p3 v3 hv3 => ?_))
    rw [ME_33] at n3
    rw [ME_g]
    refine as_39 eX9_readIndex_30 ?_
    rw [ME_d]
    refine wp_aload_n eX9_readIndex_31 rfl ?_
    refine gf_X9_29 eX9_readIndex_32 ?_
    refine wp_iconst eX9_readIndex_35 ?_
    refine wp_aload_n eX9_readIndex_36 rfl ?_
    refine wp_iconst eX9_readIndex_37 ?_
    refine wp_iconst eX9_readIndex_38 ?_
    refine c_X9_155 eX9_readIndex_39 (ct_read (by decide) (by decide) (ME_bt hb) (by rw [ME_33]; exact p3) s2.n (fun g4 n4 p4 v4 hv4 => ?_))
    rw [ME_33] at n4
    rw [ME_g]
    refine as_39 eX9_readIndex_42 ?_
    rw [ME_d]
    refine wp_aload_n eX9_readIndex_43 rfl ?_
    refine c_X9_159 eX9_readIndex_44 (ct_expectSemi (ME_bt hb) (by rw [ME_33]; exact p4) s2.n.n (fun g5 n5 p5 => ?_))
    rw [ME_33] at n5
    rw [ME_g]
    refine wp_return eX9_readIndex_47 ?_
    refine k g5 _ (n1.tr (n2.tr (n3.tr (n4.tr n5)))) p5 (fun z q _ _ => ?_)
    have z4 := p_s_0 z
    have z3 := p_n_0 z4
    unfold ixD
    rw [hv4 z4, hv3 z3]
  · have hw : ¬ p_w b 0 σ = true := by
      intro h9
      rw [if_pos h9] at c6
      exact c6 (by decide)
    refine wp_aload_n eX9_readIndex_9 rfl ?_
    refine wp_iconst eX9_readIndex_10 ?_
    refine c_X9_143 eX9_readIndex_11 (ct_fail (c := 1) (by decide) (by rw [ME_33]; exact hP) hσ (fun g1 n1 p1 => ?_))
    rw [ME_33] at n1
    rw [ME_g]
    have s1 := hσ.f (c := 1) (by decide)
    have hpk : p_a b len (p_f 1 σ) = p_k b len 0 σ := by unfold p_k; rw [if_neg hw]
    refine wp_aload_n eX9_readIndex_14 rfl ?_
    refine c_X9_146 eX9_readIndex_15 (ct_next (ME_bt hb) (by rw [ME_33]; exact p1) s1 (fun g2 n2 p2 => ?_))
    rw [ME_33] at n2
    rw [ME_g]
    rw [hpk] at p2
    have s2 : SG len (p_k b len 0 σ) := by rw [← hpk]; exact s1.a
    refine wp_aload_n eX9_readIndex_18 rfl ?_
    refine gf_X9_29 eX9_readIndex_19 ?_
    refine wp_iconst eX9_readIndex_22 ?_
    refine wp_aload_n eX9_readIndex_23 rfl ?_
    refine wp_iconst eX9_readIndex_24 ?_
    refine wp_bipush eX9_readIndex_25 ?_
    refine c_X9_155 eX9_readIndex_27 (ct_read (by decide) (by decide) (ME_bt hb) (by rw [ME_33]; exact p2) s2 (fun g3 n3 p3 v3 hv3 => ?_))
    rw [ME_33] at n3
    rw [ME_g]
    refine as_39 eX9_readIndex_30 ?_
    rw [ME_d]
    refine wp_aload_n eX9_readIndex_31 rfl ?_
    refine gf_X9_29 eX9_readIndex_32 ?_
    refine wp_iconst eX9_readIndex_35 ?_
    refine wp_aload_n eX9_readIndex_36 rfl ?_
    refine wp_iconst eX9_readIndex_37 ?_
    refine wp_iconst eX9_readIndex_38 ?_
    refine c_X9_155 eX9_readIndex_39 (ct_read (by decide) (by decide) (ME_bt hb) (by rw [ME_33]; exact p3) s2.n (fun g4 n4 p4 v4 hv4 => ?_))
    rw [ME_33] at n4
    rw [ME_g]
    refine as_39 eX9_readIndex_42 ?_
    rw [ME_d]
    refine wp_aload_n eX9_readIndex_43 rfl ?_
    refine c_X9_159 eX9_readIndex_44 (ct_expectSemi (ME_bt hb) (by rw [ME_33]; exact p4) s2.n.n (fun g5 n5 p5 => ?_))
    rw [ME_33] at n5
    rw [ME_g]
    refine wp_return eX9_readIndex_47 ?_
    refine k g5 _ (n1.tr (n2.tr (n3.tr (n4.tr n5)))) p5 (fun z q _ _ => ?_)
    have z4 := p_s_0 z
    have z3 := p_n_0 z4
    unfold ixD
    rw [hv4 z4, hv3 z3]
set_option maxHeartbeats 1000000 in
theorem lp_readDisks {G : bc_G} {M : bc_M} {post : bc_R → bc_M → Prop} {b : Int → Int} {len : Int} (hb : BT M b len) : ∀ (n : Nat) (c : Int) (σ : bl_s) (g Dm Dd : Int → Int) (h1 : c + n = 5) (h2 : 0 ≤ c ∧ c ≤ 4) (hF : ∀ f, (f < 13 ∨ 18 < f) → f ≠ 20 → g f = M 33 0 f) (hP : PG g len σ) (hσ : SG len σ) (hc : g 20 = c) (hD : σ.1 = 0 → ∀ q, 0 ≤ q → q < 62 → Dm q = Dd q) (k : ∀ g' D' : Int → Int, (∀ f, (f < 13 ∨ 18 < f) → f ≠ 20 → g' f = M 33 0 f) → PG g' len (dkL b len n c σ Dd).1 → g' 20 = (dkL b len n c σ Dd).2.1 → ((dkL b len n c σ Dd).1.1 = 0 → ∀ q, 0 ≤ q → q < 62 → D' q = (dkL b len n c σ Dd).2.2 q) → post (.inr none) (ME M g' D')), bc_W G RX9 cX9_readDisks 1 none 6 0 0 5 [some (vR G 33 0)] [] (ME M g Dm) post := by
  intro n
  induction n with
  | zero =>
    intro c σ g Dm Dd h1 h2 hF hP hσ hc hD k
    have hl := hb.2
    refine wp_aload_n eX9_readDisks_5 rfl ?_
    refine wp_ldcS (ti := 1) (tx := "disk") eX9_readDisks_6 (by decide +kernel) ?_
    refine c_X9_151 eX9_readDisks_8 (ct_isWord (ME_bt hb) (by rw [ME_33]; exact hP) hσ (ti := 1) (by decide) ?_)
    refine wp_if_eq eX9_readDisks_11 (fun c11 => ?_) (fun c11 => ?_) (by split <;> omega)
    · omega
    · omega
  | succ n ih =>
    intro c σ g Dm Dd h1 h2 hF hP hσ hc hD k
    have hl := hb.2
    refine wp_aload_n eX9_readDisks_5 rfl ?_
    refine wp_ldcS (ti := 1) (tx := "disk") eX9_readDisks_6 (by decide +kernel) ?_
    refine c_X9_151 eX9_readDisks_8 (ct_isWord (ME_bt hb) (by rw [ME_33]; exact hP) hσ (ti := 1) (by decide) ?_)
    refine wp_if_eq eX9_readDisks_11 (fun c11 => ?_) (fun c11 => ?_) (by split <;> omega)
    · have hw : ¬ p_w b 1 σ = true := by
        intro h9
        rw [if_pos h9] at c11
        exact absurd c11 (by decide)
      refine wp_aload_n eX9_readDisks_67 rfl ?_
      refine gf_X9_162 eX9_readDisks_68 ?_
      rw [ME_33, hc]
      refine wp_if_ne eX9_readDisks_71 (fun c71 => ?_) (fun c71 => ?_)
      · have hk9 : (dkL b len (n + 1) c σ Dd) = (σ, c, Dd) := by
          simp only [dkL]
          rw [if_neg hw, if_neg (by omega)]
        rw [hk9] at k
        refine wp_return eX9_readDisks_79 ?_
        exact k g Dm hF hP hc hD
      · have hk9 : (dkL b len (n + 1) c σ Dd) = (p_f 1 σ, c, Dd) := by
          simp only [dkL]
          rw [if_neg hw, if_pos (by omega)]
        rw [hk9] at k
        refine wp_aload_n eX9_readDisks_74 rfl ?_
        refine wp_iconst eX9_readDisks_75 ?_
        refine c_X9_143 eX9_readDisks_76 (ct_fail (c := 1) (by decide) (by rw [ME_33]; exact hP) hσ (fun g1 n1 p1 => ?_))
        rw [ME_33] at n1
        rw [ME_g]
        refine wp_return eX9_readDisks_79 ?_
        exact k g1 Dm (fun f a b => by rw [n1 f a]; exact hF f a b) p1 (by rw [n1 20 (by decide)]; exact hc) (fun z => absurd z (p_f_ne (by decide)))
    · have hw : p_w b 1 σ = true := by
        apply Decidable.byContradiction
        intro h9
        rw [if_neg h9] at c11
        exact absurd rfl c11
      refine wp_aload_n eX9_readDisks_14 rfl ?_
      refine gf_X9_162 eX9_readDisks_15 ?_
      rw [ME_33, hc]
      refine wp_iconst eX9_readDisks_18 ?_
      refine wp_icmp_ne eX9_readDisks_19 (fun c19 => ?_) (fun c19 => ?_)
      · refine wp_aload_n eX9_readDisks_28 rfl ?_
        refine c_X9_146 eX9_readDisks_29 (ct_next (ME_bt hb) (by rw [ME_33]; exact hP) hσ (fun g2 n2 p2 => ?_))
        rw [ME_33] at n2
        rw [ME_g]
        have s2 := hσ.a (b := b)
        have hc2 : g2 20 = c := by rw [n2 20 (by decide)]; exact hc
        refine wp_aload_n eX9_readDisks_32 rfl ?_
        refine gf_X9_29 eX9_readDisks_33 ?_
        refine wp_iconst eX9_readDisks_36 ?_
        refine wp_aload_n eX9_readDisks_37 rfl ?_
        refine gf_X9_162 eX9_readDisks_38 ?_
        rw [ME_33, hc2]
        refine wp_iadd eX9_readDisks_41 ?_
        refine wp_aload_n eX9_readDisks_42 rfl ?_
        refine wp_iconst eX9_readDisks_43 ?_
        refine wp_bipush eX9_readDisks_44 ?_
        refine c_X9_155 eX9_readDisks_46 (ct_read (by decide) (by omega) (ME_bt hb) (by rw [ME_33]; exact p2) s2 (fun g3 n3 p3 v3 hv3 => ?_))
        rw [ME_33] at n3
        rw [ME_g]
        refine as_39 eX9_readDisks_49 ?_
        rw [ME_d]
        refine wp_aload_n eX9_readDisks_50 rfl ?_
        refine c_X9_159 eX9_readDisks_51 (ct_expectSemi (ME_bt hb) (by rw [ME_33]; exact p3) s2.n (fun g4 n4 p4 => ?_))
        rw [ME_33] at n4
        rw [ME_g]
        have hcn : g4 20 = c := by rw [n4 20 (by decide), n3 20 (by decide)]; exact hc2
        refine wp_aload_n eX9_readDisks_54 rfl ?_
        refine wp_dup eX9_readDisks_55 ?_
        refine gf_X9_162 eX9_readDisks_56 ?_
        rw [ME_33, hcn]
        refine wp_iconst eX9_readDisks_59 ?_
        refine wp_iadd eX9_readDisks_60 ?_
        refine pf_X9_162 eX9_readDisks_61 ?_
        refine wp_goto eX9_readDisks_64 ?_
        rw [ME_f]
        have hk9 : (dkL b len (n + 1) c σ Dd) = (dkL b len n (c + 1) (p_s b len (p_n b len 1 6 (p_a b len σ))) (bc_u Dd (2 + c) (p_a b len σ).2.2.2.2)) := by
          simp only [dkL]
          rw [if_pos hw, if_neg (by omega)]
        rw [hk9] at k
        refine ih (c + 1) _ (bc_u g4 20 (c + 1)) (bc_u Dm (2 + c) v3) (bc_u Dd (2 + c) (p_a b len σ).2.2.2.2) (by omega) (by omega) (fun f a b9 => ?_) ?_ s2.n.s (by rw [u_at]) (fun z q a b9 => ?_) k
        · rw [u_ne b9, n4 f a, n3 f a, n2 f a]; exact hF f a b9
        · obtain ⟨a1, a2, a3, a4, a5, a6, a7⟩ := p4
          exact ⟨by rw [u_ne (by decide)]; exact a1, by rw [u_ne (by decide)]; exact a2, by rw [u_ne (by decide)]; exact a3, by rw [u_ne (by decide)]; exact a4, by rw [u_ne (by decide)]; exact a5, fun z => by rw [u_ne (by decide)]; exact a6 z, by rw [u_ne (by decide)]; exact a7⟩
        · have z1 := p_s_0 z
          have e3 := hv3 z1
          have hD0 := hD (p_a_0 (p_n_0 z1))
          rw [e3]
          simp only [bc_u]
          rw [hD0 q a b9]
      · refine wp_aload_n eX9_readDisks_22 rfl ?_
        refine wp_iconst eX9_readDisks_23 ?_
        refine c_X9_143 eX9_readDisks_24 (ct_fail (c := 3) (by decide) (by rw [ME_33]; exact hP) hσ (fun g1 n1 p1 => ?_))
        rw [ME_33] at n1
        rw [ME_g]
        refine wp_return eX9_readDisks_27 ?_
        have hk9 : (dkL b len (n + 1) c σ Dd) = (p_f 3 σ, c, Dd) := by
          simp only [dkL]
          rw [if_pos hw, if_pos (by omega)]
        rw [hk9] at k
        exact k g1 Dm (fun f a b => by rw [n1 f a]; exact hF f a b) p1 (by rw [n1 20 (by decide)]; exact hc) (fun z => absurd z (p_f_ne (by decide)))
theorem ct_readDisks {G : bc_G} {M : bc_M} {post : bc_R → bc_M → Prop} {b : Int → Int} {len : Int} (hb : BT M b len) {σ : bl_s} (hP : PG (M 33 0) len σ) (hσ : SG len σ) (k : ∀ g' D' : Int → Int, (∀ f, (f < 13 ∨ 18 < f) → f ≠ 20 → g' f = M 33 0 f) → PG g' len (dkL b len 5 0 σ (M 39 0)).1 → g' 20 = (dkL b len 5 0 σ (M 39 0)).2.1 → ((dkL b len 5 0 σ (M 39 0)).1.1 = 0 → ∀ q, 0 ≤ q → q < 62 → D' q = (dkL b len 5 0 σ (M 39 0)).2.2 q) → post (.inr none) (ME M g' D')) : bc_Call G yX9_readDisks cX9_readDisks 1 none 6 0 [vR G 33 0] M post := by
  refine bc_enter (L := [some (vR G 33 0)]) (by decide) rfl rfl ?_
  rw [show M = ME M (M 33 0) (M 39 0) from ME_self.symm]
  refine wp_aload_n eX9_readDisks_0 rfl ?_
  refine wp_iconst eX9_readDisks_1 ?_
  refine pf_X9_162 eX9_readDisks_2 ?_
  rw [ME_f]
  refine lp_readDisks hb 5 0 σ (bc_u (M 33 0) 20 0) (M 39 0) (M 39 0) (by omega) (by omega) (fun f a b9 => by rw [u_ne b9]) ⟨by rw [u_ne (by decide)]; exact hP.1, by rw [u_ne (by decide)]; exact hP.2.1, by rw [u_ne (by decide)]; exact hP.2.2.1, by rw [u_ne (by decide)]; exact hP.2.2.2.1, by rw [u_ne (by decide)]; exact hP.2.2.2.2.1, fun z => by rw [u_ne (by decide)]; exact hP.2.2.2.2.2.1 z, by rw [u_ne (by decide)]; exact hP.2.2.2.2.2.2⟩ hσ (by rw [u_at]) (fun _ q _ _ => rfl) k
set_option maxHeartbeats 1000000 in
theorem lp_readItems {G : bc_G} {M : bc_M} {post : bc_R → bc_M → Prop} {b : Int → Int} {len : Int} (hb : BT M b len) {nd : Int} (hnd : 0 ≤ nd ∧ nd ≤ 4) : ∀ (n : Nat) (c : Int) (σ : bl_s) (g Dm Dd : Int → Int) (y : Option Value) (h1 : c + n = 17) (h2 : 0 ≤ c ∧ c ≤ 16) (hF : ∀ f, (f < 13 ∨ 18 < f) → f ≠ 21 → g f = M 33 0 f) (hP : PG g len σ) (hσ : SG len σ) (hc : g 21 = c) (h20 : g 20 = nd) (hD : σ.1 = 0 → ∀ q, 0 ≤ q → q < 62 → Dm q = Dd q) (k : ∀ g' D' : Int → Int, (∀ f, (f < 13 ∨ 18 < f) → f ≠ 21 → g' f = M 33 0 f) → PG g' len (itL b len nd n c σ Dd).1 → g' 21 = (itL b len nd n c σ Dd).2.1 → ((itL b len nd n c σ Dd).1.1 = 0 → ∀ q, 0 ≤ q → q < 62 → D' q = (itL b len nd n c σ Dd).2.2 q) → post (.inr none) (ME M g' D')), bc_W G RX9 cX9_readItems 2 none 6 0 0 5 [some (vR G 33 0), y] [] (ME M g Dm) post := by
  intro n
  induction n with
  | zero =>
    intro c σ g Dm Dd y h1 h2 hF hP hσ hc h20 hD k
    have hl := hb.2
    refine wp_aload_n eX9_readItems_5 rfl ?_
    refine wp_ldcS (ti := 2) (tx := "item") eX9_readItems_6 (by decide +kernel) ?_
    refine c_X9_151 eX9_readItems_8 (ct_isWord (ME_bt hb) (by rw [ME_33]; exact hP) hσ (ti := 2) (by decide) ?_)
    refine wp_if_eq eX9_readItems_11 (fun c11 => ?_) (fun c11 => ?_) (by split <;> omega)
    · omega
    · omega
  | succ n ih =>
    intro c σ g Dm Dd y h1 h2 hF hP hσ hc h20 hD k
    have hl := hb.2
    refine wp_aload_n eX9_readItems_5 rfl ?_
    refine wp_ldcS (ti := 2) (tx := "item") eX9_readItems_6 (by decide +kernel) ?_
    refine c_X9_151 eX9_readItems_8 (ct_isWord (ME_bt hb) (by rw [ME_33]; exact hP) hσ (ti := 2) (by decide) ?_)
    refine wp_if_eq eX9_readItems_11 (fun c11 => ?_) (fun c11 => ?_) (by split <;> omega)
    · have hw : ¬ p_w b 2 σ = true := by
        intro h9
        rw [if_pos h9] at c11
        exact absurd c11 (by decide)
      refine wp_aload_n eX9_readItems_108 rfl ?_
      refine gf_X9_167 eX9_readItems_109 ?_
      rw [ME_33, hc]
      refine wp_if_ne eX9_readItems_112 (fun c112 => ?_) (fun c112 => ?_)
      · have hk9 : (itL b len nd (n + 1) c σ Dd) = (σ, c, Dd) := by
          simp only [itL]
          rw [if_neg hw, if_neg (by omega)]
        rw [hk9] at k
        refine wp_return eX9_readItems_120 ?_
        exact k g Dm hF hP hc hD
      · have hk9 : (itL b len nd (n + 1) c σ Dd) = (p_f 1 σ, c, Dd) := by
          simp only [itL]
          rw [if_neg hw, if_pos (by omega)]
        rw [hk9] at k
        refine wp_aload_n eX9_readItems_115 rfl ?_
        refine wp_iconst eX9_readItems_116 ?_
        refine c_X9_143 eX9_readItems_117 (ct_fail (c := 1) (by decide) (by rw [ME_33]; exact hP) hσ (fun g1 n1 p1 => ?_))
        rw [ME_33] at n1
        rw [ME_g]
        refine wp_return eX9_readItems_120 ?_
        exact k g1 Dm (fun f a b => by rw [n1 f a]; exact hF f a b) p1 (by rw [n1 21 (by decide)]; exact hc) (fun z => absurd z (p_f_ne (by decide)))
    · have hw : p_w b 2 σ = true := by
        apply Decidable.byContradiction
        intro h9
        rw [if_neg h9] at c11
        exact absurd rfl c11
      refine wp_aload_n eX9_readItems_14 rfl ?_
      refine gf_X9_167 eX9_readItems_15 ?_
      rw [ME_33, hc]
      refine wp_bipush eX9_readItems_18 ?_
      refine wp_icmp_ne eX9_readItems_20 (fun c20 => ?_) (fun c20 => ?_)
      · refine wp_aload_n eX9_readItems_29 rfl ?_
        refine c_X9_146 eX9_readItems_30 (ct_next (ME_bt hb) (by rw [ME_33]; exact hP) hσ (fun g2 n2 p2 => ?_))
        rw [ME_33] at n2
        rw [ME_g]
        have s2 := hσ.a (b := b)
        have hc2 : g2 21 = c := by rw [n2 21 (by decide)]; exact hc
        have h202 : g2 20 = nd := by rw [n2 20 (by decide)]; exact h20
        refine wp_bipush eX9_readItems_33 ?_
        refine wp_iconst eX9_readItems_35 ?_
        refine wp_aload_n eX9_readItems_36 rfl ?_
        refine gf_X9_167 eX9_readItems_37 ?_
        rw [ME_33, hc2]
        refine wp_imul eX9_readItems_40 ?_
        refine wp_iadd eX9_readItems_41 ?_
        refine ist_1 eX9_readItems_42 ?_
        refine wp_aload_n eX9_readItems_43 rfl ?_
        refine gf_X9_29 eX9_readItems_44 ?_
        refine wp_iload_n eX9_readItems_47 rfl ?_
        refine wp_aload_n eX9_readItems_48 rfl ?_
        refine wp_iconst eX9_readItems_49 ?_
        refine wp_bipush eX9_readItems_50 ?_
        refine c_X9_155 eX9_readItems_52 (ct_read (by decide) (by omega) (ME_bt hb) (by rw [ME_33]; exact p2) s2 (fun g3 n3 p3 v3 hv3 => ?_))
        rw [ME_33] at n3
        rw [ME_g]
        have h203 : g3 20 = nd := by rw [n3 20 (by decide)]; exact h202
        refine as_39 eX9_readItems_55 ?_
        rw [ME_d]
        refine wp_aload_n eX9_readItems_56 rfl ?_
        refine gf_X9_29 eX9_readItems_57 ?_
        refine wp_iload_n eX9_readItems_60 rfl ?_
        refine wp_iconst eX9_readItems_61 ?_
        refine wp_iadd eX9_readItems_62 ?_
        refine wp_aload_n eX9_readItems_63 rfl ?_
        refine wp_iconst eX9_readItems_64 ?_
        refine wp_aload_n eX9_readItems_65 rfl ?_
        refine gf_X9_162 eX9_readItems_66 ?_
        rw [ME_33, h203]
        refine wp_iconst eX9_readItems_69 ?_
        refine wp_isub eX9_readItems_70 ?_
        refine c_X9_155 eX9_readItems_71 (ct_read (by decide) (by omega) (ME_bt hb) (by rw [ME_33]; exact p3) s2.n (fun g4 n4 p4 v4 hv4 => ?_))
        rw [ME_33] at n4
        rw [ME_g]
        have h204 : g4 20 = nd := by rw [n4 20 (by decide)]; exact h203
        refine as_39 eX9_readItems_74 ?_
        rw [ME_d]
        refine wp_aload_n eX9_readItems_75 rfl ?_
        refine gf_X9_29 eX9_readItems_76 ?_
        refine wp_iload_n eX9_readItems_79 rfl ?_
        refine wp_iconst eX9_readItems_80 ?_
        refine wp_iadd eX9_readItems_81 ?_
        refine wp_aload_n eX9_readItems_82 rfl ?_
        refine wp_iconst eX9_readItems_83 ?_
        refine wp_sipush eX9_readItems_84 ?_
        refine c_X9_155 eX9_readItems_87 (ct_read (by decide) (by omega) (ME_bt hb) (by rw [ME_33]; exact p4) s2.n.n (fun g5 n5 p5 v5 hv5 => ?_))
        rw [ME_33] at n5
        rw [ME_g]
        have h205 : g5 20 = nd := by rw [n5 20 (by decide)]; exact h204
        refine as_39 eX9_readItems_90 ?_
        rw [ME_d]
        refine wp_aload_n eX9_readItems_91 rfl ?_
        refine c_X9_159 eX9_readItems_92 (ct_expectSemi (ME_bt hb) (by rw [ME_33]; exact p5) s2.n.n.n (fun g6 n6 p6 => ?_))
        rw [ME_33] at n6
        rw [ME_g]
        have hcn : g6 21 = c := by rw [n6 21 (by decide), n5 21 (by decide), n4 21 (by decide), n3 21 (by decide)]; exact hc2
        refine wp_aload_n eX9_readItems_95 rfl ?_
        refine wp_dup eX9_readItems_96 ?_
        refine gf_X9_167 eX9_readItems_97 ?_
        rw [ME_33, hcn]
        refine wp_iconst eX9_readItems_100 ?_
        refine wp_iadd eX9_readItems_101 ?_
        refine pf_X9_167 eX9_readItems_102 ?_
        refine wp_goto eX9_readItems_105 ?_
        rw [ME_f]
        have hk9 : (itL b len nd (n + 1) c σ Dd) = (itL b len nd n (c + 1) (p_s b len (p_n b len 0 999 (p_n b len 0 (nd - 1) (p_n b len 0 99 (p_a b len σ))))) (bc_u (bc_u (bc_u Dd (6 + 3 * c) (p_a b len σ).2.2.2.2) (6 + 3 * c + 1) (p_n b len 0 99 (p_a b len σ)).2.2.2.2) (6 + 3 * c + 2) (p_n b len 0 (nd - 1) (p_n b len 0 99 (p_a b len σ))).2.2.2.2)) := by
          simp only [itL]
          rw [if_pos hw, if_neg (by omega)]
        rw [hk9] at k
        refine ih (c + 1) _ (bc_u g6 21 (c + 1)) (bc_u (bc_u (bc_u Dm (6 + 3 * c) v3) (6 + 3 * c + 1) v4) (6 + 3 * c + 2) v5) (bc_u (bc_u (bc_u Dd (6 + 3 * c) (p_a b len σ).2.2.2.2) (6 + 3 * c + 1) (p_n b len 0 99 (p_a b len σ)).2.2.2.2) (6 + 3 * c + 2) (p_n b len 0 (nd - 1) (p_n b len 0 99 (p_a b len σ))).2.2.2.2) _ (by omega) (by omega) (fun f a b9 => ?_) ?_ s2.n.n.n.s (by rw [u_at]) (by rw [u_ne (by decide), n6 20 (by decide)]; exact h205) (fun z q a b9 => ?_) k
        · rw [u_ne b9, n6 f a, n5 f a, n4 f a, n3 f a, n2 f a]; exact hF f a b9
        · obtain ⟨a1, a2, a3, a4, a5, a6, a7⟩ := p6
          exact ⟨by rw [u_ne (by decide)]; exact a1, by rw [u_ne (by decide)]; exact a2, by rw [u_ne (by decide)]; exact a3, by rw [u_ne (by decide)]; exact a4, by rw [u_ne (by decide)]; exact a5, fun z => by rw [u_ne (by decide)]; exact a6 z, by rw [u_ne (by decide)]; exact a7⟩
        · have z1 := p_s_0 z
          have e5 := hv5 z1
          have z2 := p_n_0 z1
          have e4 := hv4 z2
          have z3 := p_n_0 z2
          have e3 := hv3 z3
          have hD0 := hD (p_a_0 (p_n_0 z3))
          rw [e3, e4, e5]
          simp only [bc_u]
          rw [hD0 q a b9]
      · refine wp_aload_n eX9_readItems_23 rfl ?_
        refine wp_iconst eX9_readItems_24 ?_
        refine c_X9_143 eX9_readItems_25 (ct_fail (c := 3) (by decide) (by rw [ME_33]; exact hP) hσ (fun g1 n1 p1 => ?_))
        rw [ME_33] at n1
        rw [ME_g]
        refine wp_return eX9_readItems_28 ?_
        have hk9 : (itL b len nd (n + 1) c σ Dd) = (p_f 3 σ, c, Dd) := by
          simp only [itL]
          rw [if_pos hw, if_pos (by omega)]
        rw [hk9] at k
        exact k g1 Dm (fun f a b => by rw [n1 f a]; exact hF f a b) p1 (by rw [n1 21 (by decide)]; exact hc) (fun z => absurd z (p_f_ne (by decide)))
theorem ct_readItems {G : bc_G} {M : bc_M} {post : bc_R → bc_M → Prop} {b : Int → Int} {len : Int} (hb : BT M b len) {σ : bl_s} (hP : PG (M 33 0) len σ) (hσ : SG len σ) {nd : Int} (hnd : 0 ≤ nd ∧ nd ≤ 4) (h20 : M 33 0 20 = nd) (k : ∀ g' D' : Int → Int, (∀ f, (f < 13 ∨ 18 < f) → f ≠ 21 → g' f = M 33 0 f) → PG g' len (itL b len nd 17 0 σ (M 39 0)).1 → g' 21 = (itL b len nd 17 0 σ (M 39 0)).2.1 → ((itL b len nd 17 0 σ (M 39 0)).1.1 = 0 → ∀ q, 0 ≤ q → q < 62 → D' q = (itL b len nd 17 0 σ (M 39 0)).2.2 q) → post (.inr none) (ME M g' D')) : bc_Call G yX9_readItems cX9_readItems 2 none 6 0 [vR G 33 0] M post := by
  refine bc_enter (L := [some (vR G 33 0), none]) (by decide) rfl rfl ?_
  rw [show M = ME M (M 33 0) (M 39 0) from ME_self.symm]
  refine wp_aload_n eX9_readItems_0 rfl ?_
  refine wp_iconst eX9_readItems_1 ?_
  refine pf_X9_167 eX9_readItems_2 ?_
  rw [ME_f]
  refine lp_readItems hb hnd 17 0 σ (bc_u (M 33 0) 21 0) (M 39 0) (M 39 0) none (by omega) (by omega) (fun f a b9 => by rw [u_ne b9]) ⟨by rw [u_ne (by decide)]; exact hP.1, by rw [u_ne (by decide)]; exact hP.2.1, by rw [u_ne (by decide)]; exact hP.2.2.1, by rw [u_ne (by decide)]; exact hP.2.2.2.1, by rw [u_ne (by decide)]; exact hP.2.2.2.2.1, fun z => by rw [u_ne (by decide)]; exact hP.2.2.2.2.2.1 z, by rw [u_ne (by decide)]; exact hP.2.2.2.2.2.2⟩ hσ (by rw [u_at]) (by rw [u_ne (by decide)]; exact h20) (fun _ q _ _ => rfl) k
