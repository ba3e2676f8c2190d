/-- settings in the model's row -/
def MS (M : bc_M) (dk fr pop bnd : Int → Int) (nd ni sg ln : Int) : Prop := SV dk fr nd ni sg ln ∧ (M 33 0 5 = nd ∧ M 33 0 6 = ni) ∧ (∀ i, 0 ≤ i → i < 16 → M 34 0 (16 + i) = dk i) ∧ (∀ d, 0 ≤ d → d < 4 → M 34 0 (48 + d) = fr d) ∧ (M 34 0 52 = sg ∧ M 34 0 53 = ln) ∧ (∀ i, 0 ≤ i → i < 16 → M 34 0 (0 + i) = pop i ∧ M 34 0 (32 + i) = bnd i) ∧ ∀ i, 0 ≤ i → i < ni → (0 ≤ pop i ∧ pop i ≤ 99) ∧ 0 ≤ bnd i ∧ bnd i ≤ 999
/-- the model's program is that of its settings -/
def ML (M : bc_M) (dk fr : Int → Int) (nd ni sg ln : Int) : Prop := (M 33 0 25 = sp_S dk fr nd ni ∧ M 33 0 27 = sp_S dk fr nd ni + sg * ln) ∧ DI dk fr nd ni (M 41 0) (sp_N dk fr nd ni) 0 ∧ PP (M 41 0) (M 42 0) sg (sp_S dk fr nd ni) ln (sp_S dk fr nd ni + sg * ln) sg (sp_S dk fr nd ni)
def lyP : Nat → Int → Prop := fun k' j' => (k' = 33 ∨ k' = 41 ∨ k' = 42 ∨ k' = 43 ∨ k' = 44) ∧ j' = 0
/-- what laying and looking leaves -/
def LY (M M' : bc_M) : Prop := Fr lyP M M' ∧ ∀ f, f ≠ 25 → f ≠ 27 → M' 33 0 f = M 33 0 f
theorem LY.tr {M M1 M2 : bc_M} (h : LY M M1) (h2 : LY M1 M2) : LY M M2 := ⟨Fr.tr h.1 h2.1, fun f a b => (h2.2 f a b).trans (h.2 f a b)⟩
theorem LY.ms {M M' : bc_M} {dk fr pop bnd : Int → Int} {nd ni sg ln : Int} (h : LY M M') (hs : MS M dk fr pop bnd nd ni sg ln) : MS M' dk fr pop bnd nd ni sg ln := by
  unfold MS at hs ⊢
  rw [h.1 34 0 (by unfold lyP; omega), h.2 5 (by decide) (by decide), h.2 6 (by decide) (by decide)]
  exact hs
theorem ML.rows {M M' : bc_M} {dk fr : Int → Int} {nd ni sg ln : Int} (h : ML M dk fr nd ni sg ln) (e : ∀ k, (k = 33 ∨ k = 41 ∨ k = 42) → M' k 0 = M k 0) : ML M' dk fr nd ni sg ln := by
  unfold ML at h ⊢
  rw [e 33 (by decide), e 41 (by decide), e 42 (by decide)]
  exact h
theorem LY.of {M M' : bc_M} (h : Fr (fun k' j' => (k' = 43 ∨ k' = 44) ∧ j' = 0) M M') : LY M M' := ⟨h.mono (fun k j q => ⟨by omega, q.2⟩), fun f _ _ => by rw [h 33 0 (by omega)]⟩
theorem ct_layP {G : bc_G} {M : bc_M} {post : bc_R → bc_M → Prop} {dk fr pop bnd : Int → Int} {nd ni sg ln : Int} (hs : MS M dk fr pop bnd nd ni sg ln) (k : ∀ M' : bc_M, LY M M' → ML M' dk fr nd ni sg ln → post (.inr none) M') : bc_Call G yX9_layProgram cX9_layProgram 5 none 9 0 [vR G 33 0] M post :=
  ct_layProgram hs.1 hs.2.1.1 hs.2.1.2 hs.2.2.1 hs.2.2.2.1 hs.2.2.2.2.1.1 hs.2.2.2.2.1.2 (fun M' a b c d e f => k M' ⟨a.mono (fun k9 j9 q => ⟨by omega, q.2⟩), b⟩ ⟨⟨c, d⟩, e, f⟩)
theorem ML.len {M : bc_M} {dk fr : Int → Int} {nd ni sg ln : Int} (hv : SV dk fr nd ni sg ln) (h : ML M dk fr nd ni sg ln) : 1 ≤ sp_S dk fr nd ni + sg * ln ∧ sp_S dk fr nd ni + sg * ln ≤ 400 := by
  have h1 := sp_S336 hv
  have h2 := sp_NRL hv
  have h3 := sp_S_rng hv
  have h4 := bm_nn (a := sg) (b := ln) (A := 8) (B := 4) hv.2.2.1 (by have := hv.2.2.2.1; omega)
  omega
def vl (b g : Int → Int) : Nat → Int → Int → Int
  | 0, _, s => s
  | n + 1, i, s => vl b g n (i + 1) (if 0 < b i ∧ b i < g i then bs_add s i else s)
theorem vl_viol {M : bc_M} {j z : Int} : ∀ (n : Nat) (i s : Int), pg_viol M j z n i s = vl (M 10 z) (pg_gap M j) n i s
  | 0, _, _ => rfl
  | n + 1, i, s => by simp only [pg_viol, vl]; exact vl_viol n (i + 1) _
theorem vl_c {b b' g g' : Int → Int} {ni : Int} (e : ∀ i, 0 ≤ i → i < ni → b i = b' i ∧ g i = g' i) : ∀ (n : Nat) (i s : Int), 0 ≤ i → i + n ≤ ni → vl b g n i s = vl b' g' n i s
  | 0, _, _, _, _ => rfl
  | n + 1, i, s, h1, h2 => by
    simp only [vl]
    rw [(e i h1 (by omega)).1, (e i h1 (by omega)).2]
    exact vl_c e n (i + 1) _ (by omega) (by omega)
set_option maxHeartbeats 1000000 in
theorem lp_violating {G : bc_G} {post : bc_R → bc_M → Prop} {dk fr pop bnd : Int → Int} {nd ni sg ln : Int} {M0 : bc_M} (hs : MS M0 dk fr pop bnd nd ni sg ln) : ∀ (n : Nat) (i s : Int) (Mc : bc_M) (h1 : i + n = ni) (h2 : 0 ≤ i) (hsr : 0 ≤ s ∧ s < 65536) (hLY : LY M0 Mc) (hML : ML Mc dk fr nd ni sg ln) (k : ∀ M' : bc_M, LY M0 M' → ML M' dk fr nd ni sg ln → post (.inr (some (vI (vl bnd (pg_gap (spM dk fr nd ni sg ln) 0) n i s)))) M'), bc_W G RX9 cX9_violating 3 (some .int) 10 0 0 8 [some (vR G 33 0), some (vI s), some (vI i)] [] Mc post := by
  intro n
  induction n with
  | zero =>
    intro i s Mc h1 h2 hsr hLY hML k
    have hms := hLY.ms hs
    have hni := hs.1.2.1
    have hlen := hML.len hs.1
    have hbn := fun (q : Int) (a : 0 ≤ q) (b : q < ni) => (hs.2.2.2.2.2.2 q a b).2
    refine wp_iload_n eX9_violating_8 rfl ?_
    refine wp_aload_n eX9_violating_9 rfl ?_
    refine gf_X9_79 eX9_violating_10 ?_
    rw [hms.2.1.2]
    refine wp_icmp_ge eX9_violating_13 (fun c13 => ?_) (fun c13 => ?_)
    · refine wp_iload_n eX9_violating_61 rfl ?_
      refine wp_ireturn eX9_violating_62 ?_
      exact k _ hLY hML
    · omega
  | succ n ih =>
    intro i s Mc h1 h2 hsr hLY hML k
    have hms := hLY.ms hs
    have hni := hs.1.2.1
    have hlen := hML.len hs.1
    have hbn := fun (q : Int) (a : 0 ≤ q) (b : q < ni) => (hs.2.2.2.2.2.2 q a b).2
    refine wp_iload_n eX9_violating_8 rfl ?_
    refine wp_aload_n eX9_violating_9 rfl ?_
    refine gf_X9_79 eX9_violating_10 ?_
    rw [hms.2.1.2]
    refine wp_icmp_ge eX9_violating_13 (fun c13 => ?_) (fun c13 => ?_)
    · omega
    · have e32 := (hms.2.2.2.2.2.1 i (by omega) (by omega)).2
      have hb9 := hbn i h2 (by omega)
      refine wp_iload_n eX9_violating_16 rfl ?_
      refine wp_aload_n eX9_violating_17 rfl ?_
      refine gf_X9_7 eX9_violating_18 ?_
      refine wp_bipush eX9_violating_21 ?_
      refine wp_iload_n eX9_violating_23 rfl ?_
      refine wp_iadd eX9_violating_24 ?_
      refine al_34 eX9_violating_25 ?_
      rw [e32]
      refine wp_if_le eX9_violating_26 (fun c26 => ?_) (fun c26 => ?_)
      · have hk9 : vl bnd (pg_gap (spM dk fr nd ni sg ln) 0) (n + 1) i s = vl bnd (pg_gap (spM dk fr nd ni sg ln) 0) n (i + 1) (s) := by
          simp only [vl]
          rw [if_neg (by omega)]
        rw [hk9] at k
        refine wp_iconst eX9_violating_52 ?_
        refine wp_ior eX9_violating_53 ?_
        refine ist_1 eX9_violating_54 ?_
        refine inc_2 eX9_violating_55 ?_
        refine wp_goto eX9_violating_58 ?_
        rw [bx_or0 hsr]
        exact ih (i + 1) _ _ (by omega) (by omega) (hsr) hLY hML k
      · refine wp_aload_n eX9_violating_29 rfl ?_
        refine wp_iload_n eX9_violating_30 rfl ?_
        refine c_X9_245 eX9_violating_31 (ct_gapOf (x := i) (p := Mc 42 0) (len := sp_S dk fr nd ni + sg * ln) hlen (by omega) hML.1.2 rfl (fun t a b => P_rng hs.1 hML.2.1 hML.2.2 ⟨a, b⟩) (fun M1 g1 => ?_))
        rw [(gap_eq hs.1 spM_br hML.2.1 hML.2.2 (i := i) (by omega)).1]
        have hgr := pg_gap_rng (BR.pv hs.1 spM_br).1 (i := i) (by omega)
        have hLY1 : LY Mc M1 := LY.of (g1.mono (fun k9 j9 q => ⟨Or.inl q.1, q.2⟩))
        have hML1 : ML M1 dk fr nd ni sg ln := hML.rows (fun k9 h9 => g1 k9 0 (by unfold at1; omega))
        have hms1 := hLY1.ms hms
        have hLY2 := hLY.tr hLY1
        have e32' := (hms1.2.2.2.2.2.1 i (by omega) (by omega)).2
        refine wp_aload_n eX9_violating_34 rfl ?_
        refine gf_X9_7 eX9_violating_35 ?_
        refine wp_bipush eX9_violating_38 ?_
        refine wp_iload_n eX9_violating_40 rfl ?_
        refine wp_iadd eX9_violating_41 ?_
        refine al_34 eX9_violating_42 ?_
        rw [e32']
        refine wp_icmp_le eX9_violating_43 (fun c43 => ?_) (fun c43 => ?_)
        · have hk9 : vl bnd (pg_gap (spM dk fr nd ni sg ln) 0) (n + 1) i s = vl bnd (pg_gap (spM dk fr nd ni sg ln) 0) n (i + 1) (s) := by
            simp only [vl]
            rw [if_neg (by omega)]
          rw [hk9] at k
          refine wp_iconst eX9_violating_52 ?_
          refine wp_ior eX9_violating_53 ?_
          refine ist_1 eX9_violating_54 ?_
          refine inc_2 eX9_violating_55 ?_
          refine wp_goto eX9_violating_58 ?_
          rw [bx_or0 hsr]
          exact ih (i + 1) _ _ (by omega) (by omega) (hsr) hLY2 hML1 k
        · have hk9 : vl bnd (pg_gap (spM dk fr nd ni sg ln) 0) (n + 1) i s = vl bnd (pg_gap (spM dk fr nd ni sg ln) 0) n (i + 1) (bs_add s i) := by
            simp only [vl]
            rw [if_pos (by omega)]
          rw [hk9] at k
          have hba := bs_add_rng (s := s) (i := i) (n := 16) (by omega) (by omega)
          refine wp_iconst eX9_violating_46 ?_
          refine wp_iload_n eX9_violating_47 rfl ?_
          refine wp_ishl eX9_violating_48 ?_
          refine wp_goto eX9_violating_49 ?_
          refine wp_ior eX9_violating_53 ?_
          refine ist_1 eX9_violating_54 ?_
          refine inc_2 eX9_violating_55 ?_
          refine wp_goto eX9_violating_58 ?_
          rw [bs_or_shl ⟨by omega, by omega⟩ ⟨by omega, by omega⟩]
          exact ih (i + 1) _ _ (by omega) (by omega) (by omega) hLY2 hML1 k
theorem ct_violating {G : bc_G} {M : bc_M} {post : bc_R → bc_M → Prop} {dk fr pop bnd : Int → Int} {nd ni sg ln : Int} (hs : MS M dk fr pop bnd nd ni sg ln) (k : ∀ M' : bc_M, LY M M' → ML M' dk fr nd ni sg ln → post (.inr (some (vI (sp_V dk fr bnd nd ni sg ln)))) M') : bc_Call G yX9_violating cX9_violating 3 (some .int) 10 0 [vR G 33 0] M post := by
  have hni := hs.1.2.1
  refine bc_enter (L := [some (vR G 33 0), none, none]) (by decide) rfl rfl ?_
  refine wp_aload_n eX9_violating_0 rfl ?_
  refine c_X9_242 eX9_violating_1 (ct_layP hs (fun M1 hLY hML => ?_))
  refine wp_iconst eX9_violating_4 ?_
  refine ist_1 eX9_violating_5 ?_
  refine wp_iconst eX9_violating_6 ?_
  refine ist_2 eX9_violating_7 ?_
  refine lp_violating hs ni.toNat 0 0 M1 (by omega) (by omega) (by omega) hLY hML (fun M2 a b => ?_)
  have e : vl bnd (pg_gap (spM dk fr nd ni sg ln) 0) ni.toNat 0 0 = sp_V dk fr bnd nd ni sg ln := by
    unfold sp_V
    rw [vl_viol]
    refine vl_c (ni := ni) (fun i x y => ⟨?_, PE.gap (BR.pe hs.1 spM_br spX_br) ⟨x, y⟩⟩) _ _ _ (by omega) (by omega)
    unfold spX
    rw [row_at]
  rw [e]
  exact k M2 a b
