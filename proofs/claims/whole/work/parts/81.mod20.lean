/-- laid anew, the row kept but for one place -/
def LX (M M' : bc_M) (a : Int) : Prop := Fr (fun k' j' => lyP k' j' ∨ (k' = 34 ∧ j' = 0)) M M' ∧ (∀ f, f ≠ 25 → f ≠ 27 → M' 33 0 f = M 33 0 f) ∧ ∀ q, q ≠ a → M' 34 0 q = M 34 0 q
theorem LX.ly {M M1 M2 : bc_M} {a : Int} (h : LX M M1 a) (h2 : LY M1 M2) : LX M M2 a := ⟨Fr.tr h.1 (h2.1.mono (fun _ _ q => Or.inl q)), fun f a b => (h2.2 f a b).trans (h.2.1 f a b), fun q hq => by rw [h2.1 34 0 (by unfold lyP; omega)]; exact h.2.2 q hq⟩
theorem LX.up {M M1 : bc_M} {a v : Int} (h : LX M M1 a) : LX M (bc_up M1 34 0 a v) a := ⟨Fr.tr h.1 (Fr.up (Or.inr ⟨rfl, rfl⟩)), fun f x y => by rw [up_kne (by decide)]; exact h.2.1 f x y, fun q hq => by rw [up_v, if_neg hq]; exact h.2.2 q hq⟩
theorem LX.rf {M : bc_M} {a : Int} : LX M M a := ⟨Fr.rf, fun _ _ _ => rfl, fun _ _ => rfl⟩
theorem LX.back {M M1 : bc_M} {a : Int} (h : LX M M1 a) : LY M (bc_up M1 34 0 a (M 34 0 a)) := by
  have h34 : bc_up M1 34 0 a (M 34 0 a) 34 0 = M 34 0 := by
    funext q
    rw [up_v]
    by_cases hq : q = a
    · rw [if_pos hq, hq]
    · rw [if_neg hq]; exact h.2.2 q hq
  refine ⟨fun k j hk => ?_, fun f x y => by rw [up_kne (by decide)]; exact h.2.1 f x y⟩
  by_cases e : k = 34 ∧ j = 0
  · rw [e.1, e.2]; exact h34
  · have e2 : bc_up M1 34 0 a (M 34 0 a) k j = M1 k j := by simp only [bc_up, if_neg e]
    rw [e2]
    exact h.1 k j (fun q => q.elim hk e)
theorem MS.sg {M : bc_M} {dk fr pop bnd : Int → Int} {nd ni sg ln s : Int} (hs : MS M dk fr pop bnd nd ni sg ln) (h1 : 0 ≤ s ∧ s ≤ 8) : MS (bc_up M 34 0 52 s) dk fr pop bnd nd ni s ln := by
  obtain ⟨a1, a2, a3, a4, a5, a6, a7⟩ := hs
  refine ⟨a1.ix h1 a1.2.2.2.1, by rw [up_kne (by decide)]; exact a2, fun q x y => ?_, fun q x y => ?_, ?_, fun q x y => ?_, a7⟩
  · rw [up_v, if_neg (by omega)]; exact a3 q x y
  · rw [up_v, if_neg (by omega)]; exact a4 q x y
  · exact ⟨by rw [up_v, if_pos rfl], by rw [up_v, if_neg (by decide)]; exact a5.2⟩
  · rw [up_v, if_neg (by omega), up_v, if_neg (by omega)]; exact a6 q x y
theorem ws_in_rng {a f B : Int} {X T : Int → Int} (ha : 0 ≤ a ∧ a ≤ 99) (hf : 0 ≤ f ∧ f ≤ 99) (hX : ∀ t, 0 ≤ X t ∧ X t ≤ 9000) (hT : ∀ t, 0 ≤ T t ∧ T t ≤ 9000) : ∀ (n : Nat) (t w : Int), (0 ≤ w ∧ w ≤ B) → 0 ≤ ws_in a f X T n t w ∧ ws_in a f X T n t w ≤ B + n * 90000000
  | 0, _, w, h => by simp only [ws_in]; omega
  | n + 1, t, w, h => by
    simp only [ws_in]
    have b1 := bm_nn (a := f) (b := T t) (A := 99) (B := 9000) hf (hT t)
    have b2 := bm_nn (a := a) (b := X t + f * T t) (A := 99) (B := 900000) ha (by have := hX t; omega)
    have := ws_in_rng (B := B + 90000000) ha hf hX hT n (t + 1) (w + a * (X t + f * T t)) (by omega)
    omega
theorem ws_out_rng {pop : Int → Int} {f len ni B : Int} {X T : Int → Int → Int} (hp : ∀ i, 0 ≤ i → i < ni → 0 ≤ pop i ∧ pop i ≤ 99) (hf : 0 ≤ f ∧ f ≤ 99) (hl : 0 ≤ len ∧ len ≤ 400) (hX : ∀ i, 0 ≤ i → i < ni → ∀ t, 0 ≤ X i t ∧ X i t ≤ 9000) (hT : ∀ i, 0 ≤ i → i < ni → ∀ t, 0 ≤ T i t ∧ T i t ≤ 9000) : ∀ (n : Nat) (i w B : Int), 0 ≤ i → i + n ≤ ni → (0 ≤ w ∧ w ≤ B) → 0 ≤ ws_out pop f len X T n i w ∧ ws_out pop f len X T n i w ≤ B + n * 36000000000
  | 0, _, w, B, _, _, h => by simp only [ws_out]; omega
  | n + 1, i, w, B, h1, h2, h => by
    simp only [ws_out]
    have b1 := ws_in_rng (B := B) (hp i h1 (by omega)) hf (hX i h1 (by omega)) (hT i h1 (by omega)) len.toNat 0 w h
    have := ws_out_rng (B := B) hp hf hl hX hT n (i + 1) (ws_in (pop i) f (X i) (T i) len.toNat 0 w) (B + 36000000000) (by omega) (by omega) (by omega)
    omega
theorem sp_WS_rng {dk fr pop : Int → Int} {nd ni sg ln f : Int} (hv : SV dk fr nd ni sg ln) (hp : ∀ i, 0 ≤ i → i < ni → 0 ≤ pop i ∧ pop i ≤ 99) (hf : 0 ≤ f ∧ f ≤ 99) (hl : 1 ≤ sp_S dk fr nd ni + sg * ln ∧ sp_S dk fr nd ni + sg * ln ≤ 400) : 0 ≤ sp_WS dk fr pop nd ni sg ln f ∧ sp_WS dk fr pop nd ni sg ln f ≤ 1000000000000 := by
  have hni := hv.2.1
  have := ws_out_rng (B := 0) (pop := pop) (f := f) (len := sp_S dk fr nd ni + sg * ln) (ni := ni) (X := fun i t => pg_wait (spM dk fr nd ni sg ln) 0 i t) (T := fun i t => pg_listen (spM dk fr nd ni sg ln) 0 i t) hp hf (by omega) (fun i a b t => (sW_rng hv ⟨a, b⟩).1) (fun i a b t => (sW_rng hv ⟨a, b⟩).2) ni.toNat 0 0 0 (by omega) (by omega) (by omega)
  unfold sp_WS
  omega
set_option maxHeartbeats 1000000 in
theorem lp_mBestSeg {G : bc_G} {post : bc_R → bc_M → Prop} {dk fr pop bnd : Int → Int} {nd ni ln f p52 : Int} {M0 : bc_M} (hf : 0 ≤ f ∧ f ≤ 99) (hp52 : p52 = M0 34 0 52) : ∀ (n : Nat) (s b lw lc sg : Int) (Mc : bc_M) (y : Option Value) (h1 : s + n = 9) (h2 : 0 ≤ s) (hb : b = -1 ∧ s = 0 ∨ 0 ≤ b ∧ b < s) (h3 : (0 ≤ lw ∧ lw ≤ 1000000000000) ∧ 0 ≤ lc ∧ lc ≤ 1000) (hX : LX M0 Mc 52) (hms : MS Mc dk fr pop bnd nd ni sg ln) (k : ∀ M' : bc_M, LY M0 M' → post (.inr (some (vI (bsg (fun s => sp_WS dk fr pop nd ni s ln f) (fun s => sp_S dk fr nd ni + s * ln) n s b lw lc)))) M'), bc_W G RX9 cX9_bestSegments 11 (some .int) 12 0 0 37 [some (vR G 33 0), some (vI f), some (vI p52), some (vI b), some (vJ lw), none, some (vJ lc), none, some (vI s), y, none] [] Mc post := by
  intro n
  induction n with
  | zero =>
    intro s b lw lc sg Mc y h1 h2 hb h3 hX hms k
    refine wp_iload eX9_bestSegments_37 rfl ?_
    refine wp_bipush eX9_bestSegments_39 ?_
    refine wp_icmp_gt eX9_bestSegments_41 (fun c41 => ?_) (fun c41 => ?_)
    · simp only [bsg] at k
      refine wp_aload_n eX9_bestSegments_102 rfl ?_
      refine gf_X9_7 eX9_bestSegments_103 ?_
      refine wp_bipush eX9_bestSegments_106 ?_
      refine wp_iload_n eX9_bestSegments_108 rfl ?_
      refine as_34 eX9_bestSegments_109 ?_
      rw [hp52]
      refine wp_iload_n eX9_bestSegments_110 rfl ?_
      refine wp_ireturn eX9_bestSegments_111 ?_
      exact k _ hX.back
    · omega
  | succ n ih =>
    intro s b lw lc sg Mc y h1 h2 hb h3 hX hms k
    refine wp_iload eX9_bestSegments_37 rfl ?_
    refine wp_bipush eX9_bestSegments_39 ?_
    refine wp_icmp_gt eX9_bestSegments_41 (fun c41 => ?_) (fun c41 => ?_)
    · omega
    · refine wp_aload_n eX9_bestSegments_44 rfl ?_
      refine gf_X9_7 eX9_bestSegments_45 ?_
      refine wp_bipush eX9_bestSegments_48 ?_
      refine wp_iload eX9_bestSegments_50 rfl ?_
      refine as_34 eX9_bestSegments_52 ?_
      have hms1 := hms.sg (s := s) (by omega)
      refine wp_aload_n eX9_bestSegments_53 rfl ?_
      refine wp_iload_n eX9_bestSegments_54 rfl ?_
      refine c_X9_321 eX9_bestSegments_55 (ct_weightOf hms1 (f := f) hf (fun M1 g1 g2 => ?_))
      have hlen := g2.len hms1.1
      have hwr := sp_WS_rng (pop := pop) (f := f) hms1.1 (fun i a b => (hms1.2.2.2.2.2.2 i a b).1) hf hlen
      have hX1 := (hX.up (v := s)).ly g1
      have hms2 := g1.ms hms1
      have e27 := g2.1.2
      refine lst_9 eX9_bestSegments_58 ?_
      refine wp_iload_n eX9_bestSegments_60 rfl ?_
      refine wp_iconst eX9_bestSegments_61 ?_
      refine wp_icmp_eq eX9_bestSegments_62 (fun c62 => ?_) (fun c62 => ?_)
      · have hk9 : bsg (fun s => sp_WS dk fr pop nd ni s ln f) (fun s => sp_S dk fr nd ni + s * ln) (n + 1) s b lw lc = bsg (fun s => sp_WS dk fr pop nd ni s ln f) (fun s => sp_S dk fr nd ni + s * ln) n (s + 1) s (sp_WS dk fr pop nd ni s ln f) (sp_S dk fr nd ni + s * ln) := by
          simp only [bsg]
          rw [if_pos (Or.inl (by omega))]
        rw [hk9] at k
        refine wp_iload eX9_bestSegments_82 rfl ?_
        refine ist_3 eX9_bestSegments_84 ?_
        refine wp_lload eX9_bestSegments_85 rfl ?_
        refine lst_4 eX9_bestSegments_87 ?_
        refine wp_aload_n eX9_bestSegments_89 rfl ?_
        refine gf_X9_231 eX9_bestSegments_90 ?_
        rw [e27]
        refine wp_i2l eX9_bestSegments_93 ?_
        refine lst_6 eX9_bestSegments_94 ?_
        refine inc_8 eX9_bestSegments_96 ?_
        refine wp_goto eX9_bestSegments_99 ?_
        exact ih (s + 1) _ _ _ s M1 _ (by omega) (by omega) (by omega) (by omega) hX1 hms2 k
      · refine wp_lload eX9_bestSegments_65 rfl ?_
        refine wp_lload eX9_bestSegments_67 rfl ?_
        refine wp_lmul eX9_bestSegments_69 ?_
        refine wp_lload eX9_bestSegments_70 rfl ?_
        refine wp_aload_n eX9_bestSegments_72 rfl ?_
        refine gf_X9_231 eX9_bestSegments_73 ?_
        rw [e27]
        refine wp_i2l eX9_bestSegments_76 ?_
        refine wp_lmul eX9_bestSegments_77 ?_
        have b1 := bm_abs (a := sp_WS dk fr pop nd ni s ln f) (b := lc) (A := 1000000000000) (B := 1000) (by omega) (by omega)
        have b2 := bm_abs (a := lw) (b := (sp_S dk fr nd ni + s * ln)) (A := 1000000000000) (B := 1000) (by omega) (by omega)
        refine wp_lcmp eX9_bestSegments_78 ?_
        refine wp_if_ge eX9_bestSegments_79 (fun c79 => ?_) (fun c79 => ?_) bx_cr
        · rw [bx_ge] at c79
          have hk9 : bsg (fun s => sp_WS dk fr pop nd ni s ln f) (fun s => sp_S dk fr nd ni + s * ln) (n + 1) s b lw lc = bsg (fun s => sp_WS dk fr pop nd ni s ln f) (fun s => sp_S dk fr nd ni + s * ln) n (s + 1) b lw lc := by
            simp only [bsg]
            rw [if_neg (fun q => by omega)]
          rw [hk9] at k
          refine inc_8 eX9_bestSegments_96 ?_
          refine wp_goto eX9_bestSegments_99 ?_
          exact ih (s + 1) _ _ _ s M1 _ (by omega) (by omega) (by omega) (by omega) hX1 hms2 k
        · rw [bx_ge] at c79
          have hk9 : bsg (fun s => sp_WS dk fr pop nd ni s ln f) (fun s => sp_S dk fr nd ni + s * ln) (n + 1) s b lw lc = bsg (fun s => sp_WS dk fr pop nd ni s ln f) (fun s => sp_S dk fr nd ni + s * ln) n (s + 1) s (sp_WS dk fr pop nd ni s ln f) (sp_S dk fr nd ni + s * ln) := by
            simp only [bsg]
            rw [if_pos (Or.inr (by omega))]
          rw [hk9] at k
          refine wp_iload eX9_bestSegments_82 rfl ?_
          refine ist_3 eX9_bestSegments_84 ?_
          refine wp_lload eX9_bestSegments_85 rfl ?_
          refine lst_4 eX9_bestSegments_87 ?_
          refine wp_aload_n eX9_bestSegments_89 rfl ?_
          refine gf_X9_231 eX9_bestSegments_90 ?_
          rw [e27]
          refine wp_i2l eX9_bestSegments_93 ?_
          refine lst_6 eX9_bestSegments_94 ?_
          refine inc_8 eX9_bestSegments_96 ?_
          refine wp_goto eX9_bestSegments_99 ?_
          exact ih (s + 1) _ _ _ s M1 _ (by omega) (by omega) (by omega) (by omega) hX1 hms2 k
theorem bsg_0 {W C : Int → Int} {b c : Int} {n : Nat} {lw lc lw' lc' : Int} : bsg W C (n + 1) 0 b lw lc = bsg W C (n + 1) 0 c lw' lc' := by
  simp only [bsg]
  rw [if_pos (Or.inl trivial), if_pos (Or.inl trivial)]
theorem ct_mBestSegments {G : bc_G} {M : bc_M} {post : bc_R → bc_M → Prop} {f : Int} {dk fr pop bnd : Int → Int} {nd ni sg ln : Int} (hI : M 33 0 3 = 1 → MS M dk fr pop bnd nd ni sg ln) (hl : M 33 0 3 = 0 ∨ M 33 0 3 = 1) (k1 : M 33 0 3 = 0 → post (.inr (some (vI 0))) (bc_up M 33 0 4 1)) (k2 : M 33 0 3 = 1 → (f < 0 ∨ 99 < f) → post (.inr (some (vI 0))) (bc_up M 33 0 4 2)) (k3 : M 33 0 3 = 1 → ¬ (f < 0 ∨ 99 < f) → ∀ M' : bc_M, QM M M' → post (.inr (some (vI (bsg (fun s => sp_WS dk fr pop nd ni s ln f) (fun s => sp_S dk fr nd ni + s * ln) 9 0 0 0 1)))) M') (ha : 0 ≤ M 33 0 2 ∧ M 33 0 2 ≤ 10) (hit : 0 ≤ M 33 0 6 ∧ M 33 0 6 ≤ 16) (hdi : 0 ≤ M 33 0 5 ∧ M 33 0 5 ≤ 4) (hcl : 0 ≤ M 33 0 7 ∧ M 33 0 7 ≤ 4) (h_f : -2147483648 ≤ f ∧ f < 2147483648 := by omega) : bc_Call G yX9_bestSegments cX9_bestSegments 11 (some .int) 12 0 [vR G 33 0, vI f] M post := by
  refine bc_enter (L := [some (vR G 33 0), some (vI f), none, none, none, none, none, none, none, none, none]) (by decide) rfl rfl ?_
  refine wp_aload_n eX9_bestSegments_0 rfl ?_
  refine wp_iload_n eX9_bestSegments_1 rfl ?_
  refine wp_i2l eX9_bestSegments_2 ?_
  refine wp_lconst0 eX9_bestSegments_3 ?_
  refine wp_ldc2 (n := 99) eX9_bestSegments_4 kc_X9_287 (by decide) ?_
  refine c_X9_75 eX9_bestSegments_7 (ct_mIsIn ?_)
  by_cases hb9 : 0 ≤ f ∧ f ≤ 99
  · rw [if_pos hb9]
    refine c_X9_201 eX9_bestSegments_10 (ct_mIsWrong ?_)
    rcases hl with hl0 | hl1
    · rw [show mo_thr M 1 = 1 by unfold mo_thr; rw [if_pos hl0]]
      refine wp_if_eq eX9_bestSegments_13 (fun c13 => ?_) (fun c13 => ?_)
      · exact absurd c13 (by decide)
      · refine wp_iconst eX9_bestSegments_16 ?_
        refine wp_ireturn eX9_bestSegments_17 ?_
        exact k1 hl0
    · rw [show mo_thr M 1 = 0 by unfold mo_thr; rw [if_neg (by omega), if_neg (by decide)]]
      have hs0 := up_ms (f := 4) (v := 0) (hI hl1) (by decide) (by decide)
      have hs9 := hI hl1
      have hni := hs0.1.2.1
      have hnd := hs0.1.1
      have e6 := hs9.2.1.2
      have e5 := hs9.2.1.1
      refine wp_if_eq eX9_bestSegments_13 (fun c13 => ?_) (fun c13 => ?_)
      · refine wp_aload_n eX9_bestSegments_18 rfl ?_
        refine gf_X9_7 eX9_bestSegments_19 ?_
        refine wp_bipush eX9_bestSegments_22 ?_
        refine al_34 eX9_bestSegments_24 ?_
        rw [up_kne (by decide)]
        refine ist_2 eX9_bestSegments_25 ?_
        refine wp_iconst eX9_bestSegments_26 ?_
        refine ist_3 eX9_bestSegments_27 ?_
        refine wp_lconst0 eX9_bestSegments_28 ?_
        refine lst_4 eX9_bestSegments_29 ?_
        refine wp_lconst1 eX9_bestSegments_31 ?_
        refine lst_6 eX9_bestSegments_32 ?_
        refine wp_iconst eX9_bestSegments_34 ?_
        refine ist_8 eX9_bestSegments_35 ?_
        refine lp_mBestSeg (by omega) (by rw [up_kne (by decide)]) 9 0 (-1) 0 1 sg _ none (by omega) (by omega) (Or.inl ⟨rfl, rfl⟩) (by omega) LX.rf hs0 (fun M1 g1 => ?_)
        rw [bsg_0 (c := 0) (lw' := 0) (lc' := 1)]
        exact k3 hl1 (by omega) M1 (QM.b0.ly g1)
      · exact absurd (by decide) c13
  · rw [if_neg hb9]
    refine c_X9_201 eX9_bestSegments_10 (ct_mIsWrong ?_)
    rcases hl with hl0 | hl1
    · rw [show mo_thr M 0 = 1 by unfold mo_thr; rw [if_pos hl0]]
      refine wp_if_eq eX9_bestSegments_13 (fun c13 => ?_) (fun c13 => ?_)
      · exact absurd c13 (by decide)
      · refine wp_iconst eX9_bestSegments_16 ?_
        refine wp_ireturn eX9_bestSegments_17 ?_
        exact k1 hl0
    · rw [show mo_thr M 0 = 2 by unfold mo_thr; rw [if_neg (by omega), if_pos rfl]]
      refine wp_if_eq eX9_bestSegments_13 (fun c13 => ?_) (fun c13 => ?_)
      · exact absurd c13 (by decide)
      · refine wp_iconst eX9_bestSegments_16 ?_
        refine wp_ireturn eX9_bestSegments_17 ?_
        exact k2 hl1 (by omega)
set_option maxHeartbeats 1000000 in
theorem lp_mBestDisk {G : bc_G} {post : bc_R → bc_M → Prop} {dk fr pop bnd : Int → Int} {nd ni sg ln i p16 : Int} {M0 : bc_M} (hi : 0 ≤ i ∧ i < ni) (hp16 : p16 = M0 34 0 (16 + i)) : ∀ (n : Nat) (x b f f' : Int) (dc : Int → Int) (Mc : bc_M) (y : Option Value) (h1 : x + n = nd) (h2 : 0 ≤ x) (hb : b = -1 ∧ f' = 17 ∨ 0 ≤ b ∧ b < 4 ∧ f' = f) (h3 : 0 ≤ f ∧ f ≤ 17) (hX : LX M0 Mc (16 + i)) (hms : MS Mc dc fr pop bnd nd ni sg ln) (hu : ∀ v, bc_u dc i v = bc_u dk i v) (k : ∀ M' : bc_M, LY M0 M' → post (.inr (some (vI (bdk (fun x => bs_cnt (sp_V (bc_u dk i x) fr bnd nd ni sg ln) 16) n x b f')))) M'), bc_W G RX9 cX9_bestDisk 7 (some .int) 12 0 0 32 [some (vR G 33 0), some (vI i), some (vI p16), some (vI b), some (vI f), some (vI x), y] [] Mc post := by
  intro n
  induction n with
  | zero =>
    intro x b f f' dc Mc y h1 h2 hb h3 hX hms hu k
    have hni := hms.1.2.1
    have hnd := hms.1.1
    refine wp_iload eX9_bestDisk_32 rfl ?_
    refine wp_aload_n eX9_bestDisk_34 rfl ?_
    refine gf_X9_72 eX9_bestDisk_35 ?_
    rw [hms.2.1.1]
    refine wp_icmp_ge eX9_bestDisk_38 (fun c38 => ?_) (fun c38 => ?_)
    · simp only [bdk] at k
      refine wp_aload_n eX9_bestDisk_86 rfl ?_
      refine gf_X9_7 eX9_bestDisk_87 ?_
      refine wp_bipush eX9_bestDisk_90 ?_
      refine wp_iload_n eX9_bestDisk_92 rfl ?_
      refine wp_iadd eX9_bestDisk_93 ?_
      refine wp_iload_n eX9_bestDisk_94 rfl ?_
      refine as_34 eX9_bestDisk_95 ?_
      rw [hp16]
      refine wp_iload_n eX9_bestDisk_96 rfl ?_
      refine wp_ireturn eX9_bestDisk_97 ?_
      exact k _ hX.back
    · omega
  | succ n ih =>
    intro x b f f' dc Mc y h1 h2 hb h3 hX hms hu k
    have hni := hms.1.2.1
    have hnd := hms.1.1
    refine wp_iload eX9_bestDisk_32 rfl ?_
    refine wp_aload_n eX9_bestDisk_34 rfl ?_
    refine gf_X9_72 eX9_bestDisk_35 ?_
    rw [hms.2.1.1]
    refine wp_icmp_ge eX9_bestDisk_38 (fun c38 => ?_) (fun c38 => ?_)
    · omega
    · refine wp_aload_n eX9_bestDisk_41 rfl ?_
      refine gf_X9_7 eX9_bestDisk_42 ?_
      refine wp_bipush eX9_bestDisk_45 ?_
      refine wp_iload_n eX9_bestDisk_47 rfl ?_
      refine wp_iadd eX9_bestDisk_48 ?_
      refine wp_iload eX9_bestDisk_49 rfl ?_
      refine as_34 eX9_bestDisk_51 ?_
      have hms1 := hms.up16 (i := i) (v := x) hi (by omega)
      rw [hu x] at hms1
      refine wp_aload_n eX9_bestDisk_52 rfl ?_
      refine c_X9_303 eX9_bestDisk_53 (ct_violating hms1 (fun M1 g1 g2 => ?_))
      have hvr := sp_V_rng (bnd := bnd) hms1.1
      have hX1 := (hX.up (v := x)).ly g1
      have hms2 := g1.ms hms1
      refine c_X9_215 eX9_bestDisk_56 (ct_mMany hvr ?_)
      have hcr := bs_cnt_rng (sp_V (bc_u dk i x) fr bnd nd ni sg ln) 16
      refine ist_6 eX9_bestDisk_59 ?_
      refine wp_iload_n eX9_bestDisk_61 rfl ?_
      refine wp_iconst eX9_bestDisk_62 ?_
      refine wp_icmp_eq eX9_bestDisk_63 (fun c63 => ?_) (fun c63 => ?_)
      · have hk9 : bdk (fun x => bs_cnt (sp_V (bc_u dk i x) fr bnd nd ni sg ln) 16) (n + 1) x b f' = bdk (fun x => bs_cnt (sp_V (bc_u dk i x) fr bnd nd ni sg ln) 16) n (x + 1) x (bs_cnt (sp_V (bc_u dk i x) fr bnd nd ni sg ln) 16) := by
          simp only [bdk]
          rw [if_pos (by omega)]
        rw [hk9] at k
        refine wp_iload eX9_bestDisk_73 rfl ?_
        refine ist_3 eX9_bestDisk_75 ?_
        refine wp_iload eX9_bestDisk_76 rfl ?_
        refine ist_4 eX9_bestDisk_78 ?_
        refine inc_5 eX9_bestDisk_80 ?_
        refine wp_goto eX9_bestDisk_83 ?_
        exact ih (x + 1) _ _ _ (bc_u dk i x) M1 _ (by omega) (by omega) (by omega) (by omega) hX1 hms2 (fun v => u_u) k
      · refine wp_iload eX9_bestDisk_66 rfl ?_
        refine wp_iload eX9_bestDisk_68 rfl ?_
        refine wp_icmp_ge eX9_bestDisk_70 (fun c70 => ?_) (fun c70 => ?_)
        · have hk9 : bdk (fun x => bs_cnt (sp_V (bc_u dk i x) fr bnd nd ni sg ln) 16) (n + 1) x b f' = bdk (fun x => bs_cnt (sp_V (bc_u dk i x) fr bnd nd ni sg ln) 16) n (x + 1) b f' := by
            simp only [bdk]
            rw [if_neg (by omega)]
          rw [hk9] at k
          refine inc_5 eX9_bestDisk_80 ?_
          refine wp_goto eX9_bestDisk_83 ?_
          exact ih (x + 1) _ _ _ (bc_u dk i x) M1 _ (by omega) (by omega) (by omega) (by omega) hX1 hms2 (fun v => u_u) k
        · have hk9 : bdk (fun x => bs_cnt (sp_V (bc_u dk i x) fr bnd nd ni sg ln) 16) (n + 1) x b f' = bdk (fun x => bs_cnt (sp_V (bc_u dk i x) fr bnd nd ni sg ln) 16) n (x + 1) x (bs_cnt (sp_V (bc_u dk i x) fr bnd nd ni sg ln) 16) := by
            simp only [bdk]
            rw [if_pos (by omega)]
          rw [hk9] at k
          refine wp_iload eX9_bestDisk_73 rfl ?_
          refine ist_3 eX9_bestDisk_75 ?_
          refine wp_iload eX9_bestDisk_76 rfl ?_
          refine ist_4 eX9_bestDisk_78 ?_
          refine inc_5 eX9_bestDisk_80 ?_
          refine wp_goto eX9_bestDisk_83 ?_
          exact ih (x + 1) _ _ _ (bc_u dk i x) M1 _ (by omega) (by omega) (by omega) (by omega) hX1 hms2 (fun v => u_u) k
theorem bdk_0 {V : Int → Int} {b c : Int} {n : Nat} (h : V 0 < 17) : bdk V (n + 1) 0 b 17 = bdk V (n + 1) 0 c 17 := by
  simp only [bdk]
  rw [if_pos h, if_pos h]
theorem ct_mBestDisk {G : bc_G} {M : bc_M} {post : bc_R → bc_M → Prop} {i : Int} {dk fr pop bnd : Int → Int} {nd ni sg ln : Int} (hI : M 33 0 3 = 1 → MS M dk fr pop bnd nd ni sg ln) (hl : M 33 0 3 = 0 ∨ M 33 0 3 = 1) (k1 : M 33 0 3 = 0 → post (.inr (some (vI 0))) (bc_up M 33 0 4 1)) (k2 : M 33 0 3 = 1 → (i < 0 ∨ M 33 0 6 ≤ i) → post (.inr (some (vI 0))) (bc_up M 33 0 4 2)) (k3 : M 33 0 3 = 1 → ¬ (i < 0 ∨ M 33 0 6 ≤ i) → ∀ M' : bc_M, QM M M' → post (.inr (some (vI (bdk (fun x => bs_cnt (sp_V (bc_u dk i x) fr bnd nd ni sg ln) 16) nd.toNat 0 0 17)))) M') (ha : 0 ≤ M 33 0 2 ∧ M 33 0 2 ≤ 10) (hit : 0 ≤ M 33 0 6 ∧ M 33 0 6 ≤ 16) (hdi : 0 ≤ M 33 0 5 ∧ M 33 0 5 ≤ 4) (hcl : 0 ≤ M 33 0 7 ∧ M 33 0 7 ≤ 4) (h_i : -2147483648 ≤ i ∧ i < 2147483648 := by omega) : bc_Call G yX9_bestDisk cX9_bestDisk 7 (some .int) 12 0 [vR G 33 0, vI i] M post := by
  refine bc_enter (L := [some (vR G 33 0), some (vI i), none, none, none, none, none]) (by decide) rfl rfl ?_
  refine wp_aload_n eX9_bestDisk_0 rfl ?_
  refine wp_aload_n eX9_bestDisk_1 rfl ?_
  refine wp_iload_n eX9_bestDisk_2 rfl ?_
  refine c_X9_273 eX9_bestDisk_3 (ct_mIsItem ?_)
  by_cases hb9 : 0 ≤ i ∧ i ≤ M 33 0 6 - 1
  · rw [if_pos hb9]
    refine c_X9_201 eX9_bestDisk_6 (ct_mIsWrong ?_)
    rcases hl with hl0 | hl1
    · rw [show mo_thr M 1 = 1 by unfold mo_thr; rw [if_pos hl0]]
      refine wp_if_eq eX9_bestDisk_9 (fun c9 => ?_) (fun c9 => ?_)
      · exact absurd c9 (by decide)
      · refine wp_iconst eX9_bestDisk_12 ?_
        refine wp_ireturn eX9_bestDisk_13 ?_
        exact k1 hl0
    · rw [show mo_thr M 1 = 0 by unfold mo_thr; rw [if_neg (by omega), if_neg (by decide)]]
      have hs0 := up_ms (f := 4) (v := 0) (hI hl1) (by decide) (by decide)
      have hs9 := hI hl1
      have hni := hs0.1.2.1
      have hnd := hs0.1.1
      have e6 := hs9.2.1.2
      have e5 := hs9.2.1.1
      refine wp_if_eq eX9_bestDisk_9 (fun c9 => ?_) (fun c9 => ?_)
      · refine wp_aload_n eX9_bestDisk_14 rfl ?_
        refine gf_X9_7 eX9_bestDisk_15 ?_
        refine wp_bipush eX9_bestDisk_18 ?_
        refine wp_iload_n eX9_bestDisk_20 rfl ?_
        refine wp_iadd eX9_bestDisk_21 ?_
        refine al_34 eX9_bestDisk_22 ?_
        refine ist_2 eX9_bestDisk_23 ?_
        refine wp_iconst eX9_bestDisk_24 ?_
        refine ist_3 eX9_bestDisk_25 ?_
        refine wp_iconst eX9_bestDisk_26 ?_
        refine ist_4 eX9_bestDisk_27 ?_
        refine wp_iconst eX9_bestDisk_29 ?_
        refine ist_5 eX9_bestDisk_30 ?_
        refine lp_mBestDisk (i := i) (by omega) rfl nd.toNat 0 (-1) 0 17 dk _ none (by omega) (by omega) (Or.inl ⟨rfl, rfl⟩) (by omega) LX.rf hs0 (fun v => rfl) (fun M1 g1 => ?_)
        have e0 : nd.toNat = (nd.toNat - 1) + 1 := by omega
        have hcr := bs_cnt_rng (sp_V (bc_u dk i 0) fr bnd nd ni sg ln) 16
        have e1 : bdk (fun x => bs_cnt (sp_V (bc_u dk i x) fr bnd nd ni sg ln) 16) nd.toNat 0 (-1) 17 = bdk (fun x => bs_cnt (sp_V (bc_u dk i x) fr bnd nd ni sg ln) 16) nd.toNat 0 0 17 := by
          rw [e0]
          exact bdk_0 (by omega)
        rw [e1]
        exact k3 hl1 (by omega) M1 (QM.b0.ly g1)
      · exact absurd (by decide) c9
  · rw [if_neg hb9]
    refine c_X9_201 eX9_bestDisk_6 (ct_mIsWrong ?_)
    rcases hl with hl0 | hl1
    · rw [show mo_thr M 0 = 1 by unfold mo_thr; rw [if_pos hl0]]
      refine wp_if_eq eX9_bestDisk_9 (fun c9 => ?_) (fun c9 => ?_)
      · exact absurd c9 (by decide)
      · refine wp_iconst eX9_bestDisk_12 ?_
        refine wp_ireturn eX9_bestDisk_13 ?_
        exact k1 hl0
    · rw [show mo_thr M 0 = 2 by unfold mo_thr; rw [if_neg (by omega), if_pos rfl]]
      refine wp_if_eq eX9_bestDisk_9 (fun c9 => ?_) (fun c9 => ?_)
      · exact absurd c9 (by decide)
      · refine wp_iconst eX9_bestDisk_12 ?_
        refine wp_ireturn eX9_bestDisk_13 ?_
        exact k2 hl1 (by omega)
theorem aside_back {g r a0 : Int → Int} (h : ∀ q, ¬ (0 ≤ q ∧ q < 206) → r q = g q) : cpF r (fun q => cpF a0 g (206 * 0) 206 (206 * 0 + q)) 0 206 = g := by
  funext q
  unfold cpF
  by_cases hq : 0 ≤ q ∧ q < 0 + 206
  · rw [if_pos hq]
    show (if 206 * 0 ≤ 206 * 0 + (q - 0) ∧ 206 * 0 + (q - 0) < 206 * 0 + 206 then g (206 * 0 + (q - 0) - 206 * 0) else a0 (206 * 0 + (q - 0))) = g q
    rw [if_pos (by omega)]
    congr 1
    omega
  · rw [if_neg hq]; exact h q (by omega)
theorem row_ms {M : bc_M} {dk fr pop bnd : Int → Int} {nd ni sg ln : Int} {k : Nat} {g : Int → Int} (hs : MS M dk fr pop bnd nd ni sg ln) (h1 : k ≠ 33) (h2 : k ≠ 34) : MS (bc_row M k 0 g) dk fr pop bnd nd ni sg ln := by
  unfold MS at hs ⊢
  rw [row_kne (k' := 34) (fun e => h2 e.symm), row_kne (k' := 33) (fun e => h1 e.symm)]
  exact hs
theorem ct_mAfterRepair {G : bc_G} {M : bc_M} {post : bc_R → bc_M → Prop} {dk fr pop bnd : Int → Int} {nd ni sg ln : Int} (hI : M 33 0 3 = 1 → MS M dk fr pop bnd nd ni sg ln) (hl : M 33 0 3 = 0 ∨ M 33 0 3 = 1) (k1 : M 33 0 3 = 0 → post (.inr (some (vI 0))) (bc_up M 33 0 4 1)) (k3 : M 33 0 3 = 1 → ∀ M' : bc_M, QM M M' → post (.inr (some (vI (sp_V (md fr bnd nd ni sg ln 60 0 dk).2 fr bnd nd ni sg ln)))) M') (ha : 0 ≤ M 33 0 2 ∧ M 33 0 2 ≤ 10) (hit : 0 ≤ M 33 0 6 ∧ M 33 0 6 ≤ 16) (hdi : 0 ≤ M 33 0 5 ∧ M 33 0 5 ≤ 4) (hcl : 0 ≤ M 33 0 7 ∧ M 33 0 7 ≤ 4)  : bc_Call G yX9_afterRepair cX9_afterRepair 3 (some .int) 13 0 [vR G 33 0] M post := by
  refine bc_enter (L := [some (vR G 33 0), none, none]) (by decide) rfl rfl ?_
  refine wp_aload_n eX9_afterRepair_0 rfl ?_
  refine wp_iconst eX9_afterRepair_1 ?_
  refine c_X9_201 eX9_afterRepair_2 (ct_mIsWrong ?_)
  rcases hl with hl0 | hl1
  · rw [show mo_thr M 1 = 1 by unfold mo_thr; rw [if_pos hl0]]
    refine wp_if_eq eX9_afterRepair_5 (fun c5 => ?_) (fun c5 => ?_)
    · exact absurd c5 (by decide)
    · refine wp_iconst eX9_afterRepair_8 ?_
      refine wp_ireturn eX9_afterRepair_9 ?_
      exact k1 hl0
  · rw [show mo_thr M 1 = 0 by unfold mo_thr; rw [if_neg (by omega), if_neg (by decide)]]
    have hs0 := up_ms (f := 4) (v := 0) (hI hl1) (by decide) (by decide)
    have hs9 := hI hl1
    have hni := hs0.1.2.1
    have hnd := hs0.1.1
    have e6 := hs9.2.1.2
    have e5 := hs9.2.1.1
    refine wp_if_eq eX9_afterRepair_5 (fun c5 => ?_) (fun c5 => ?_)
    · refine wp_aload_n eX9_afterRepair_10 rfl ?_
      refine wp_iconst eX9_afterRepair_11 ?_
      refine c_X9_341 eX9_afterRepair_12 (ct_putAside (by omega) ?_)
      refine wp_aload_n eX9_afterRepair_15 rfl ?_
      refine c_X9_312 eX9_afterRepair_16 (ct_repairs (row_ms hs0 (by decide) (by decide)) (fun M1 hD hm1 => ?_))
      refine ist_1 eX9_afterRepair_19 ?_
      refine wp_aload_n eX9_afterRepair_20 rfl ?_
      refine c_X9_303 eX9_afterRepair_21 (ct_violating hm1 (fun M2 g1 g2 => ?_))
      refine ist_2 eX9_afterRepair_24 ?_
      refine wp_aload_n eX9_afterRepair_25 rfl ?_
      refine wp_iconst eX9_afterRepair_26 ?_
      refine c_X9_344 eX9_afterRepair_27 (ct_takeBack (by omega) ?_)
      refine wp_iload_n eX9_afterRepair_30 rfl ?_
      refine wp_ireturn eX9_afterRepair_31 ?_
      refine k3 hl1 _ ⟨fun k9 j9 hk => ?_, fun f a b => ?_, ?_⟩
      · by_cases e : k9 = 34 ∧ j9 = 0
        · rw [e.1, e.2, row_at, g1.1 40 0 (by unfold lyP; omega), hD.1 40 0 (by unfold lyP; omega), row_at]
          refine aside_back (fun q hq => ?_)
          rw [g1.1 34 0 (by unfold lyP; omega), hD.2.2, row_kne (by decide)]
          unfold cpF
          rw [if_neg (by omega)]
        · have e2 : ∀ g9, bc_row M2 34 0 g9 k9 j9 = M2 k9 j9 := fun g9 => by simp only [bc_row, if_neg e]
          unfold mqP at hk
          rw [e2, g1.1 k9 j9 (by unfold lyP; omega), hD.1 k9 j9 (by unfold lyP; omega)]
          have e3 : ∀ g9, bc_row (bc_up M 33 0 4 0) 40 0 g9 k9 j9 = bc_up M 33 0 4 0 k9 j9 := fun g9 => by simp only [bc_row, if_neg (show ¬ (k9 = 40 ∧ j9 = 0) by omega)]
          rw [e3]
          simp only [bc_up, if_neg (show ¬ (k9 = 33 ∧ j9 = 0) by omega)]
      · rw [row_kne (by decide), g1.2 f (by omega) (by omega), hD.2.1 f (by omega) (by omega), row_kne (by decide), up_v, if_neg b]
      · rw [row_kne (by decide), g1.2 4 (by decide) (by decide), hD.2.1 4 (by decide) (by decide), row_kne (by decide), up_v, if_pos rfl]
    · exact absurd (by decide) c5
theorem ct_mVictim {G : bc_G} {M : bc_M} {post : bc_R → bc_M → Prop} {c i : Int} {dk fr pop bnd : Int → Int} {nd ni sg ln : Int} (hI : M 33 0 3 = 1 → MS M dk fr pop bnd nd ni sg ln) (hl : M 33 0 3 = 0 ∨ M 33 0 3 = 1) (k1 : M 33 0 3 = 0 → post (.inr (some (vI 0))) (bc_up M 33 0 4 1)) (k2 : M 33 0 3 = 1 → (c < 0 ∨ M 33 0 7 ≤ c ∨ i < 0 ∨ M 33 0 6 ≤ i) → post (.inr (some (vI 0))) (bc_up M 33 0 4 2)) (k3 : M 33 0 3 = 1 → ¬ (c < 0 ∨ M 33 0 7 ≤ c ∨ i < 0 ∨ M 33 0 6 ≤ i) → ∀ M' : bc_M, QM M M' → post (.inr (some (vI (qr (M 36 0 c) (M 37 0 c) ni pop dk fr (mc M c) i)))) M') (ha : 0 ≤ M 33 0 2 ∧ M 33 0 2 ≤ 10) (hit : 0 ≤ M 33 0 6 ∧ M 33 0 6 ≤ 16) (hdi : 0 ≤ M 33 0 5 ∧ M 33 0 5 ≤ 4) (hcl : 0 ≤ M 33 0 7 ∧ M 33 0 7 ≤ 4) {n : Int} (hn : 0 ≤ n ∧ n ≤ 5000) (hcn : ∀ c, 0 ≤ c → c < M 33 0 7 → (0 ≤ M 36 0 c ∧ M 36 0 c ≤ 4) ∧ (0 ≤ M 37 0 c ∧ M 37 0 c ≤ 2) ∧ QI (mc M c) ni n) (h_c : -2147483648 ≤ c ∧ c < 2147483648 := by omega) (h_i : -2147483648 ≤ i ∧ i < 2147483648 := by omega) : bc_Call G yX9_victim cX9_victim 4 (some .int) 13 0 [vR G 33 0, vI c, vI i] M post := by
  refine bc_enter (L := [some (vR G 33 0), some (vI c), some (vI i), none]) (by decide) rfl rfl ?_
  refine wp_aload_n eX9_victim_0 rfl ?_
  refine wp_aload_n eX9_victim_1 rfl ?_
  refine wp_iload_n eX9_victim_2 rfl ?_
  refine c_X9_270 eX9_victim_3 (ct_mIsClient ?_)
  refine wp_if_eq eX9_victim_6 (fun c6 => ?_) (fun c6 => ?_) (by split <;> decide)
  · have g6 : ¬ (0 ≤ c ∧ c ≤ M 33 0 7 - 1) := by
      intro h9
      rw [if_pos h9] at c6
      exact absurd c6 (by decide)
    refine wp_iconst eX9_victim_21 ?_
    refine c_X9_201 eX9_victim_22 (ct_mIsWrong ?_)
    rcases hl with hl0 | hl1
    · rw [show mo_thr M 0 = 1 by unfold mo_thr; rw [if_pos hl0]]
      refine wp_if_eq eX9_victim_25 (fun c25 => ?_) (fun c25 => ?_)
      · exact absurd c25 (by decide)
      · refine wp_iconst eX9_victim_28 ?_
        refine wp_ireturn eX9_victim_29 ?_
        exact k1 hl0
    · rw [show mo_thr M 0 = 2 by unfold mo_thr; rw [if_neg (by omega), if_pos rfl]]
      refine wp_if_eq eX9_victim_25 (fun c25 => ?_) (fun c25 => ?_)
      · exact absurd c25 (by decide)
      · refine wp_iconst eX9_victim_28 ?_
        refine wp_ireturn eX9_victim_29 ?_
        exact k2 hl1 (by omega)
  · have g6 : 0 ≤ c ∧ c ≤ M 33 0 7 - 1 := by
      apply Decidable.byContradiction
      intro h9
      rw [if_neg h9] at c6
      exact absurd rfl c6
    refine wp_aload_n eX9_victim_9 rfl ?_
    refine wp_iload_n eX9_victim_10 rfl ?_
    refine c_X9_273 eX9_victim_11 (ct_mIsItem ?_)
    refine wp_if_eq eX9_victim_14 (fun c14 => ?_) (fun c14 => ?_) (by split <;> decide)
    · have g14 : ¬ (0 ≤ i ∧ i ≤ M 33 0 6 - 1) := by
        intro h9
        rw [if_pos h9] at c14
        exact absurd c14 (by decide)
      refine wp_iconst eX9_victim_21 ?_
      refine c_X9_201 eX9_victim_22 (ct_mIsWrong ?_)
      rcases hl with hl0 | hl1
      · rw [show mo_thr M 0 = 1 by unfold mo_thr; rw [if_pos hl0]]
        refine wp_if_eq eX9_victim_25 (fun c25 => ?_) (fun c25 => ?_)
        · exact absurd c25 (by decide)
        · refine wp_iconst eX9_victim_28 ?_
          refine wp_ireturn eX9_victim_29 ?_
          exact k1 hl0
      · rw [show mo_thr M 0 = 2 by unfold mo_thr; rw [if_neg (by omega), if_pos rfl]]
        refine wp_if_eq eX9_victim_25 (fun c25 => ?_) (fun c25 => ?_)
        · exact absurd c25 (by decide)
        · refine wp_iconst eX9_victim_28 ?_
          refine wp_ireturn eX9_victim_29 ?_
          exact k2 hl1 (by omega)
    · have g14 : 0 ≤ i ∧ i ≤ M 33 0 6 - 1 := by
        apply Decidable.byContradiction
        intro h9
        rw [if_neg h9] at c14
        exact absurd rfl c14
      refine wp_iconst eX9_victim_17 ?_
      refine wp_goto eX9_victim_18 ?_
      refine c_X9_201 eX9_victim_22 (ct_mIsWrong ?_)
      rcases hl with hl0 | hl1
      · rw [show mo_thr M 1 = 1 by unfold mo_thr; rw [if_pos hl0]]
        refine wp_if_eq eX9_victim_25 (fun c25 => ?_) (fun c25 => ?_)
        · exact absurd c25 (by decide)
        · refine wp_iconst eX9_victim_28 ?_
          refine wp_ireturn eX9_victim_29 ?_
          exact k1 hl0
      · rw [show mo_thr M 1 = 0 by unfold mo_thr; rw [if_neg (by omega), if_neg (by decide)]]
        have hs0 := up_ms (f := 4) (v := 0) (hI hl1) (by decide) (by decide)
        have hs9 := hI hl1
        have hni := hs0.1.2.1
        have hnd := hs0.1.1
        have e6 := hs9.2.1.2
        have e5 := hs9.2.1.1
        refine wp_if_eq eX9_victim_25 (fun c25 => ?_) (fun c25 => ?_)
        · refine wp_aload_n eX9_victim_30 rfl ?_
          refine c_X9_242 eX9_victim_31 (ct_layP hs0 (fun M1 hLY hML => ?_))
          have e34 : M1 34 0 = M 34 0 := by rw [hLY.1 34 0 (by unfold lyP; omega), up_kne (by decide)]
          have eo : ∀ k, k = 36 ∨ k = 37 → M1 k 0 = M k 0 := fun k hk => by rw [hLY.1 k 0 (by unfold lyP; omega), up_kne (by omega)]
          refine wp_aload_n eX9_victim_34 rfl ?_
          refine wp_iconst eX9_victim_35 ?_
          refine c_X9_341 eX9_victim_36 (ct_putAside (by omega) ?_)
          have emc : mc (bc_row M1 40 0 (cpF (M1 40 0) (M1 34 0) (206 * 0) 206)) c = mc M c := by funext f; unfold mc; rw [row_kne (by decide), e34]
          refine wp_aload_n eX9_victim_39 rfl ?_
          refine wp_iload_n eX9_victim_40 rfl ?_
          refine wp_iload_n eX9_victim_41 rfl ?_
          refine c_X9_279 eX9_victim_42 (ct_requests1 (row_ms (hLY.ms hs0) (by decide) (by decide)) (hML.rows (fun k9 h9 => row_kne (by omega))) (by omega) (by omega) ⟨by rw [row_kne (by decide), eo 36 (by decide)], (hcn c (by omega) (by omega)).1⟩ ⟨by rw [row_kne (by decide), eo 37 (by decide)], (hcn c (by omega) (by omega)).2.1⟩ (by rw [emc]; exact (hcn c (by omega) (by omega)).2.2) hn (fun M2 hR => ?_))
          rw [emc] at hR
          refine ist_3 eX9_victim_45 ?_
          refine wp_aload_n eX9_victim_46 rfl ?_
          refine wp_iconst eX9_victim_47 ?_
          refine c_X9_344 eX9_victim_48 (ct_takeBack (by omega) ?_)
          refine wp_aload_n eX9_victim_51 rfl ?_
          refine gf_X9_264 eX9_victim_52 ?_
          refine wp_ireturn eX9_victim_55 ?_
          rw [row_kne (by decide), hR.2.2.1]
          refine k3 hl1 (by omega) _ ⟨fun k9 j9 hk => ?_, fun f a b => ?_, ?_⟩
          · by_cases e : k9 = 34 ∧ j9 = 0
            · rw [e.1, e.2, row_at, hR.1 40 0 (by omega), row_at, hR.2.2.2]
              rw [show bc_row M1 40 0 (cpF (M1 40 0) (M1 34 0) (206 * 0) 206) 34 0 = M1 34 0 from row_kne (by decide), ← e34]
              refine aside_back (fun q hq => ?_)
              unfold cpF
              rw [if_neg (by omega)]
            · have e2 : ∀ g9, bc_row M2 34 0 g9 k9 j9 = M2 k9 j9 := fun g9 => by simp only [bc_row, if_neg e]
              unfold mqP at hk
              rw [e2, hR.1 k9 j9 (by omega)]
              have e3 : ∀ g9, bc_row M1 40 0 g9 k9 j9 = M1 k9 j9 := fun g9 => by simp only [bc_row, if_neg (show ¬ (k9 = 40 ∧ j9 = 0) by omega)]
              rw [e3, hLY.1 k9 j9 (by unfold lyP; omega)]
              simp only [bc_up, if_neg (show ¬ (k9 = 33 ∧ j9 = 0) by omega)]
          · rw [row_kne (by decide), hR.2.1 f (by omega), row_kne (by decide), hLY.2 f (by omega) (by omega), up_v, if_neg b]
          · rw [row_kne (by decide), hR.2.1 4 (by decide), row_kne (by decide), hLY.2 4 (by decide) (by decide), up_v, if_pos rfl]
        · exact absurd (by decide) c25
