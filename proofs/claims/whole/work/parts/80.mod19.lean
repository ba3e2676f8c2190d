theorem ct_isSet {G : bc_G} {M : bc_M} {post : bc_R → bc_M → Prop} {v : Int} (k : post (.inr (some (vI (if 1 ≤ v ∧ v ≤ p2 (M 33 0 6) - 1 then 1 else 0)))) M) (h_v : -2147483648 ≤ v ∧ v < 2147483648 := by omega) (hf : 0 ≤ M 33 0 6 ∧ M 33 0 6 ≤ 16 := by omega) : bc_Call G yX9_isSet cX9_isSet 2 (some .boolean) 2 0 [vR G 33 0, vI v] M post := by
  refine bc_enter (L := [some (vR G 33 0), some (vI v)]) (by decide) rfl rfl ?_
  refine wp_iload_n eX9_isSet_0 rfl ?_
  refine wp_i2l eX9_isSet_1 ?_
  refine wp_lconst1 eX9_isSet_2 ?_
  refine wp_iconst eX9_isSet_3 ?_
  refine wp_aload_n eX9_isSet_4 rfl ?_
  refine gf_X9_79 eX9_isSet_5 ?_
  refine wp_ishl eX9_isSet_8 ?_
  rw [bs_shl1 ⟨by omega, by omega⟩, show ((2 ^ (M 33 0 6).toNat : Nat) : Int) = p2 (M 33 0 6) from rfl]
  have hp2 := p2_rng (n := M 33 0 6) (by omega)
  refine wp_iconst eX9_isSet_9 ?_
  refine wp_isub eX9_isSet_10 ?_
  refine wp_i2l eX9_isSet_11 ?_
  refine c_X9_75 eX9_isSet_12 (ct_mIsIn ?_)
  refine wp_zreturn eX9_isSet_15 (by split <;> decide) ?_
  exact k
theorem lp_mLeastW {G : bc_G} {M : bc_M} {post : bc_R → bc_M → Prop} {dk fr pop bnd : Int → Int} {nd ni sg ln : Int} (hs : MS M dk fr pop bnd nd ni sg ln) (hML : ML M dk fr nd ni sg ln) : ∀ (n : Nat) (i b : Int) (h1 : i + n = ni) (h2 : 0 ≤ i) (hb : 0 ≤ b ∧ b < ni) (k : post (.inr (some (vI (fc_lw pop (fun i => fr (dk i)) n i b)))) M), bc_W G RX9 cX9_leastWorth 3 (some .int) 12 0 0 18 [some (vR G 33 0), some (vI b), some (vI i)] [] M post := by
  intro n
  induction n with
  | zero =>
    intro i b h1 h2 hb k
    have hlen := hML.len hs.1
    have hni := hs.1.2.1
    refine wp_iload_n eX9_leastWorth_18 rfl ?_
    refine wp_aload_n eX9_leastWorth_19 rfl ?_
    refine gf_X9_79 eX9_leastWorth_20 ?_
    rw [hs.2.1.2]
    refine wp_icmp_ge eX9_leastWorth_23 (fun c23 => ?_) (fun c23 => ?_)
    · simp only [fc_lw] at k
      refine wp_iload_n eX9_leastWorth_69 rfl ?_
      refine wp_ireturn eX9_leastWorth_70 ?_
      exact k
    · omega
  | succ n ih =>
    intro i b h1 h2 hb k
    have hlen := hML.len hs.1
    have hni := hs.1.2.1
    refine wp_iload_n eX9_leastWorth_18 rfl ?_
    refine wp_aload_n eX9_leastWorth_19 rfl ?_
    refine gf_X9_79 eX9_leastWorth_20 ?_
    rw [hs.2.1.2]
    refine wp_icmp_ge eX9_leastWorth_23 (fun c23 => ?_) (fun c23 => ?_)
    · omega
    · refine wp_aload_n eX9_leastWorth_26 rfl ?_
      refine gf_X9_7 eX9_leastWorth_27 ?_
      refine wp_iconst eX9_leastWorth_30 ?_
      refine wp_iload_n eX9_leastWorth_31 rfl ?_
      refine wp_iadd eX9_leastWorth_32 ?_
      refine al_34 eX9_leastWorth_33 ?_
      rw [(hs.2.2.2.2.2.1 i (by omega) (by omega)).1]
      have hp_i := (hs.2.2.2.2.2.2 i (by omega) (by omega)).1
      refine wp_aload_n eX9_leastWorth_34 rfl ?_
      refine wp_iload_n eX9_leastWorth_35 rfl ?_
      refine c_X9_354 eX9_leastWorth_36 (ct_timesOf (x := b) (p := M 42 0) (len := sp_S dk fr nd ni + sg * ln) hlen (by omega) hML.1.2 rfl (fun t a b => P_rng hs.1 hML.2.1 hML.2.2 ⟨a, b⟩) ?_)
      rw [(gap_eq hs.1 spM_br hML.2.1 hML.2.2 (i := b) (by omega)).2, show spM dk fr nd ni sg ln 19 0 b = fr (dk (b)) from rfl]
      have hf_b := hs.1.2.2.2.2.1 (dk b) (hs.1.2.2.2.2.2 b (by omega) (by omega)).1 (hs.1.2.2.2.2.2 b (by omega) (by omega)).2
      refine wp_imul eX9_leastWorth_39 ?_
      refine wp_aload_n eX9_leastWorth_40 rfl ?_
      refine gf_X9_7 eX9_leastWorth_41 ?_
      refine wp_iconst eX9_leastWorth_44 ?_
      refine wp_iload_n eX9_leastWorth_45 rfl ?_
      refine wp_iadd eX9_leastWorth_46 ?_
      refine al_34 eX9_leastWorth_47 ?_
      rw [(hs.2.2.2.2.2.1 b (by omega) (by omega)).1]
      have hp_b := (hs.2.2.2.2.2.2 b (by omega) (by omega)).1
      refine wp_aload_n eX9_leastWorth_48 rfl ?_
      refine wp_iload_n eX9_leastWorth_49 rfl ?_
      refine c_X9_354 eX9_leastWorth_50 (ct_timesOf (x := i) (p := M 42 0) (len := sp_S dk fr nd ni + sg * ln) hlen (by omega) hML.1.2 rfl (fun t a b => P_rng hs.1 hML.2.1 hML.2.2 ⟨a, b⟩) ?_)
      rw [(gap_eq hs.1 spM_br hML.2.1 hML.2.2 (i := i) (by omega)).2, show spM dk fr nd ni sg ln 19 0 i = fr (dk (i)) from rfl]
      have hf_i := hs.1.2.2.2.2.1 (dk i) (hs.1.2.2.2.2.2 i (by omega) (by omega)).1 (hs.1.2.2.2.2.2 i (by omega) (by omega)).2
      refine wp_imul eX9_leastWorth_53 ?_
      have b1 := bm_nn (a := pop i) (b := fr (dk b)) (A := 99) (B := 6) hp_i (by omega)
      have b2 := bm_nn (a := pop b) (b := fr (dk i)) (A := 99) (B := 6) hp_b (by omega)
      refine wp_icmp_ge eX9_leastWorth_54 (fun c54 => ?_) (fun c54 => ?_)
      · simp only [fc_lw] at k
        rw [if_neg (by omega)] at k
        refine wp_iload_n eX9_leastWorth_61 rfl ?_
        refine ist_1 eX9_leastWorth_62 ?_
        refine inc_2 eX9_leastWorth_63 ?_
        refine wp_goto eX9_leastWorth_66 ?_
        exact ih (i + 1) _ (by omega) (by omega) (by omega) k
      · simp only [fc_lw] at k
        rw [if_pos (by omega)] at k
        refine wp_iload_n eX9_leastWorth_57 rfl ?_
        refine wp_goto eX9_leastWorth_58 ?_
        refine ist_1 eX9_leastWorth_62 ?_
        refine inc_2 eX9_leastWorth_63 ?_
        refine wp_goto eX9_leastWorth_66 ?_
        exact ih (i + 1) _ (by omega) (by omega) (by omega) k
theorem ct_mLeastWorth {G : bc_G} {M : bc_M} {post : bc_R → bc_M → Prop} {dk fr pop bnd : Int → Int} {nd ni sg ln : Int} (hI : M 33 0 3 = 1 → MS M dk fr pop bnd nd ni sg ln) (hl : M 33 0 3 = 0 ∨ M 33 0 3 = 1) (k1 : M 33 0 3 = 0 → post (.inr (some (vI 0))) (bc_up M 33 0 4 1)) (k3 : M 33 0 3 = 1 → ∀ M' : bc_M, QM M M' → post (.inr (some (vI (fc_lw pop (fun i => fr (dk i)) (ni - 1).toNat 1 0)))) M') (ha : 0 ≤ M 33 0 2 ∧ M 33 0 2 ≤ 10) (hit : 0 ≤ M 33 0 6 ∧ M 33 0 6 ≤ 16) (hdi : 0 ≤ M 33 0 5 ∧ M 33 0 5 ≤ 4) (hcl : 0 ≤ M 33 0 7 ∧ M 33 0 7 ≤ 4)  : bc_Call G yX9_leastWorth cX9_leastWorth 3 (some .int) 12 0 [vR G 33 0] M post := by
  refine bc_enter (L := [some (vR G 33 0), none, none]) (by decide) rfl rfl ?_
  refine wp_aload_n eX9_leastWorth_0 rfl ?_
  refine wp_iconst eX9_leastWorth_1 ?_
  refine c_X9_201 eX9_leastWorth_2 (ct_mIsWrong ?_)
  rcases hl with hl0 | hl1
  · rw [show mo_thr M 1 = 1 by unfold mo_thr; rw [if_pos hl0]]
    refine wp_if_eq eX9_leastWorth_5 (fun c5 => ?_) (fun c5 => ?_)
    · exact absurd c5 (by decide)
    · refine wp_iconst eX9_leastWorth_8 ?_
      refine wp_ireturn eX9_leastWorth_9 ?_
      exact k1 hl0
  · rw [show mo_thr M 1 = 0 by unfold mo_thr; rw [if_neg (by omega), if_neg (by decide)]]
    have hs0 := up_ms (f := 4) (v := 0) (hI hl1) (by decide) (by decide)
    have hs9 := hI hl1
    have hni := hs0.1.2.1
    have hnd := hs0.1.1
    have e6 := hs9.2.1.2
    have e5 := hs9.2.1.1
    refine wp_if_eq eX9_leastWorth_5 (fun c5 => ?_) (fun c5 => ?_)
    · refine wp_aload_n eX9_leastWorth_10 rfl ?_
      refine c_X9_242 eX9_leastWorth_11 (ct_layP hs0 (fun M1 hLY hML => ?_))
      have hq1 := QM.b0.ly hLY
      have hlen := hML.len hs0.1
      have hs1 := hLY.ms hs0
      refine wp_iconst eX9_leastWorth_14 ?_
      refine ist_1 eX9_leastWorth_15 ?_
      refine wp_iconst eX9_leastWorth_16 ?_
      refine ist_2 eX9_leastWorth_17 ?_
      exact lp_mLeastW hs1 hML (ni - 1).toNat 1 0 (by omega) (by omega) (by omega) (k3 hl1 M1 hq1)
    · exact absurd (by decide) c5
theorem ct_mWaitFor {G : bc_G} {M : bc_M} {post : bc_R → bc_M → Prop} {dk fr pop bnd : Int → Int} {nd ni sg ln : Int} (hs : MS M dk fr pop bnd nd ni sg ln) (hML : ML M dk fr nd ni sg ln) {c i : Int} (hc : 0 ≤ c ∧ c < 4) (hi : 0 ≤ i ∧ i < ni) (ht : 0 ≤ mc M c 0 ∧ mc M c 0 ≤ 100000000) (k : ∀ M' : bc_M, LY M M' → ML M' dk fr nd ni sg ln → post (.inr (some (vI (sW dk fr nd ni sg ln i (mc M c 0))))) M') : bc_Call G yX9_waitFor cX9_waitFor 3 (some .int) 3 0 [vR G 33 0, vI c, vI i] M post := by
  have hlen := hML.len hs.1
  have hni := hs.1.2.1
  refine bc_enter (L := [some (vR G 33 0), some (vI c), some (vI i)]) (by decide) rfl rfl ?_
  refine wp_aload_n eX9_waitFor_0 rfl ?_
  refine wp_iload_n eX9_waitFor_1 rfl ?_
  refine c_X9_248 eX9_waitFor_2 (ct_lay (x := i) (p := M 42 0) (len := sp_S dk fr nd ni + sg * ln) hlen (by omega) hML.1.2 rfl (fun t a b => P_rng hs.1 hML.2.1 hML.2.2 ⟨a, b⟩) (fun M2 g1 g2 g3 => ?_))
  have e27 : M2 33 0 27 = sp_S dk fr nd ni + sg * ln := by rw [g1 33 0 (by omega)]; exact hML.1.2
  have hs2 := (LY.of g1).ms hs
  refine wp_aload_n eX9_waitFor_5 rfl ?_
  refine wp_aload_n eX9_waitFor_6 rfl ?_
  refine wp_iload_n eX9_waitFor_7 rfl ?_
  refine wp_iconst eX9_waitFor_8 ?_
  refine c_X9_257 eX9_waitFor_9 (ct_ofClient hc (by omega) ?_)
  rw [g1 34 0 (by omega), show M 34 0 (54 + 38 * c + 0) = mc M c 0 from rfl]
  refine wp_aload_n eX9_waitFor_12 rfl ?_
  refine gf_X9_231 eX9_waitFor_13 ?_
  rw [e27]
  refine wp_irem eX9_waitFor_16 ?_
  have hm1 := Int.emod_nonneg (mc M c 0) (show sp_S dk fr nd ni + sg * ln ≠ 0 by omega)
  have hm2 := Int.emod_lt_of_pos (mc M c 0) (show 0 < sp_S dk fr nd ni + sg * ln by omega)
  refine c_X9_251 eX9_waitFor_17 (ct_accessAt (p := M 42 0) hlen e27 hs2.2.2.2.2.1.1 hs2.2.2.2.2.1.2 hs.1.2.2.1 hs.1.2.2.2.1 g2 g3 ⟨hm1, hm2⟩ ?_)
  refine wp_ireturn eX9_waitFor_20 ?_
  rw [(acc_eq hs.1 spM_br hML.2.1 hML.2.2 (t := mc M c 0) hi).1]
  exact k M2 (LY.of g1) (hML.rows (fun k9 h9 => g1 k9 0 (by omega)))
def mo_near (V : Int → Int) (s : Int) : Nat → Int → Int → Int → Int
  | 0, _, b, _ => b
  | n + 1, i, b, l => if bs s i = true ∧ (b = -2 ∨ V i < l) then mo_near V s n (i + 1) i (V i) else mo_near V s n (i + 1) b l
def lwV (dk fr : Int → Int) (nd ni sg ln z : Int) (g : Int → Int) : Int → Int := fun i => if z = 1 ∧ bs (g 5) i = true then 0 else sW dk fr nd ni sg ln i (g 0)
set_option maxHeartbeats 1000000 in
theorem lp_leastWait {G : bc_G} {post : bc_R → bc_M → Prop} {dk fr pop bnd : Int → Int} {nd ni sg ln c s z : Int} {M0 : bc_M} (hs : MS M0 dk fr pop bnd nd ni sg ln) (hc : 0 ≤ c ∧ c < 4) (hsr : 0 ≤ s ∧ s < 65536) (hz : z = 0 ∨ z = 1) (ht : 0 ≤ mc M0 c 0 ∧ mc M0 c 0 ≤ 100000000) (h5 : 0 ≤ mc M0 c 5 ∧ mc M0 c 5 < 65536) : ∀ (n : Nat) (i b l : Int) (Mc : bc_M) (y : Option Value) (h1 : i + n = ni) (h2 : 0 ≤ i) (hb9 : -2 ≤ b ∧ b < ni) (hl9 : 0 ≤ l ∧ l ≤ 9000) (hLY : LY M0 Mc) (hML : ML Mc dk fr nd ni sg ln) (k : ∀ M' : bc_M, LY M0 M' → post (.inr (some (vI (mo_near (lwV dk fr nd ni sg ln z (mc M0 c)) s n i b l)))) M'), bc_W G RX9 cX9_leastWait 8 (some .int) 12 0 0 14 [some (vR G 33 0), some (vI c), some (vI s), some (vI z), some (vI b), some (vI l), some (vI i), y] [] Mc post := by
  intro n
  induction n with
  | zero =>
    intro i b l Mc y h1 h2 hb9 hl9 hLY hML k
    have hms := hLY.ms hs
    have hni := hs.1.2.1
    have emc : mc Mc c = mc M0 c := by funext f; unfold mc; rw [hLY.1 34 0 (by unfold lyP; omega)]
    refine wp_iload eX9_leastWait_14 rfl ?_
    refine wp_aload_n eX9_leastWait_16 rfl ?_
    refine gf_X9_79 eX9_leastWait_17 ?_
    rw [hms.2.1.2]
    refine wp_icmp_ge eX9_leastWait_20 (fun c20 => ?_) (fun c20 => ?_)
    · simp only [mo_near] at k
      refine wp_iload eX9_leastWait_94 rfl ?_
      refine wp_ireturn eX9_leastWait_96 ?_
      exact k _ hLY
    · omega
  | succ n ih =>
    intro i b l Mc y h1 h2 hb9 hl9 hLY hML k
    have hms := hLY.ms hs
    have hni := hs.1.2.1
    have emc : mc Mc c = mc M0 c := by funext f; unfold mc; rw [hLY.1 34 0 (by unfold lyP; omega)]
    refine wp_iload eX9_leastWait_14 rfl ?_
    refine wp_aload_n eX9_leastWait_16 rfl ?_
    refine gf_X9_79 eX9_leastWait_17 ?_
    rw [hms.2.1.2]
    refine wp_icmp_ge eX9_leastWait_20 (fun c20 => ?_) (fun c20 => ?_)
    · omega
    · refine wp_iload_n eX9_leastWait_23 rfl ?_
      refine wp_iload eX9_leastWait_24 rfl ?_
      refine c_X9_211 eX9_leastWait_26 (ct_has ?_)
      refine wp_if_ne eX9_leastWait_29 (fun c29 => ?_) (fun c29 => ?_) (by split <;> omega)
      · have hb : bs s i = true := by
          cases h : bs s i
          · rw [h] at c29; exact absurd rfl c29
          · rfl
        refine wp_iload_n eX9_leastWait_35 rfl ?_
        refine wp_if_eq eX9_leastWait_36 (fun c36 => ?_) (fun c36 => ?_)
        · refine wp_aload_n eX9_leastWait_57 rfl ?_
          refine wp_iload_n eX9_leastWait_58 rfl ?_
          refine wp_iload eX9_leastWait_59 rfl ?_
          refine c_X9_364 eX9_leastWait_61 (ct_mWaitFor hms hML hc (i := i) (by omega) (by rw [emc]; exact ht) (fun M1 g1 g2 => ?_))
          rw [emc]
          have hwr := (sW_rng (t := mc M0 c 0) hs.1 (i := i) (by omega)).1
          have hv : (lwV dk fr nd ni sg ln z (mc M0 c)) i = sW dk fr nd ni sg ln i (mc M0 c 0) := by
            unfold lwV
            rw [if_neg (fun q => by omega)]
          refine ist_7 eX9_leastWait_64 ?_
          refine wp_iload eX9_leastWait_66 rfl ?_
          refine wp_bipush eX9_leastWait_68 ?_
          refine wp_icmp_eq eX9_leastWait_70 (fun c70 => ?_) (fun c70 => ?_)
          · have hk9 : mo_near (lwV dk fr nd ni sg ln z (mc M0 c)) s (n + 1) i b l = mo_near (lwV dk fr nd ni sg ln z (mc M0 c)) s n (i + 1) i ((lwV dk fr nd ni sg ln z (mc M0 c)) i) := by
              simp only [mo_near]
              rw [if_pos ⟨hb, Or.inl c70⟩]
            rw [hk9] at k
            rw [hv] at k
            refine wp_iload eX9_leastWait_80 rfl ?_
            refine ist_4 eX9_leastWait_82 ?_
            refine wp_iload eX9_leastWait_84 rfl ?_
            refine ist_5 eX9_leastWait_86 ?_
            refine inc_6 eX9_leastWait_88 ?_
            refine wp_goto eX9_leastWait_91 ?_
            exact ih (i + 1) _ _ M1 _ (by omega) (by omega) (by omega) (by omega) (hLY.tr g1) g2 k
          · refine wp_iload eX9_leastWait_73 rfl ?_
            refine wp_iload eX9_leastWait_75 rfl ?_
            refine wp_icmp_ge eX9_leastWait_77 (fun c77 => ?_) (fun c77 => ?_)
            · have hk9 : mo_near (lwV dk fr nd ni sg ln z (mc M0 c)) s (n + 1) i b l = mo_near (lwV dk fr nd ni sg ln z (mc M0 c)) s n (i + 1) b l := by
                simp only [mo_near]
                rw [if_neg (fun q => q.2.elim (fun z9 => c70 z9) (fun z9 => by rw [hv] at z9; omega))]
              rw [hk9] at k
              refine inc_6 eX9_leastWait_88 ?_
              refine wp_goto eX9_leastWait_91 ?_
              exact ih (i + 1) _ _ M1 _ (by omega) (by omega) (by omega) (by omega) (hLY.tr g1) g2 k
            · have hk9 : mo_near (lwV dk fr nd ni sg ln z (mc M0 c)) s (n + 1) i b l = mo_near (lwV dk fr nd ni sg ln z (mc M0 c)) s n (i + 1) i ((lwV dk fr nd ni sg ln z (mc M0 c)) i) := by
                simp only [mo_near]
                rw [if_pos ⟨hb, Or.inr (by rw [hv]; omega)⟩]
              rw [hk9] at k
              rw [hv] at k
              refine wp_iload eX9_leastWait_80 rfl ?_
              refine ist_4 eX9_leastWait_82 ?_
              refine wp_iload eX9_leastWait_84 rfl ?_
              refine ist_5 eX9_leastWait_86 ?_
              refine inc_6 eX9_leastWait_88 ?_
              refine wp_goto eX9_leastWait_91 ?_
              exact ih (i + 1) _ _ M1 _ (by omega) (by omega) (by omega) (by omega) (hLY.tr g1) g2 k
        · refine wp_aload_n eX9_leastWait_39 rfl ?_
          refine wp_iload_n eX9_leastWait_40 rfl ?_
          refine wp_iconst eX9_leastWait_41 ?_
          refine c_X9_257 eX9_leastWait_42 (ct_ofClient hc (by omega) ?_)
          rw [show Mc 34 0 (54 + 38 * c + 5) = mc Mc c 5 from rfl, emc]
          refine wp_iload eX9_leastWait_45 rfl ?_
          refine c_X9_211 eX9_leastWait_47 (ct_has ?_)
          refine wp_if_eq eX9_leastWait_50 (fun c50 => ?_) (fun c50 => ?_) (by split <;> omega)
          · have hb5 : ¬ bs (mc M0 c 5) i = true := by
              intro h
              rw [h] at c50
              exact absurd c50 (by decide)
            refine wp_aload_n eX9_leastWait_57 rfl ?_
            refine wp_iload_n eX9_leastWait_58 rfl ?_
            refine wp_iload eX9_leastWait_59 rfl ?_
            refine c_X9_364 eX9_leastWait_61 (ct_mWaitFor hms hML hc (i := i) (by omega) (by rw [emc]; exact ht) (fun M1 g1 g2 => ?_))
            rw [emc]
            have hwr := (sW_rng (t := mc M0 c 0) hs.1 (i := i) (by omega)).1
            have hv : (lwV dk fr nd ni sg ln z (mc M0 c)) i = sW dk fr nd ni sg ln i (mc M0 c 0) := by
              unfold lwV
              rw [if_neg (fun q => hb5 q.2)]
            refine ist_7 eX9_leastWait_64 ?_
            refine wp_iload eX9_leastWait_66 rfl ?_
            refine wp_bipush eX9_leastWait_68 ?_
            refine wp_icmp_eq eX9_leastWait_70 (fun c70 => ?_) (fun c70 => ?_)
            · have hk9 : mo_near (lwV dk fr nd ni sg ln z (mc M0 c)) s (n + 1) i b l = mo_near (lwV dk fr nd ni sg ln z (mc M0 c)) s n (i + 1) i ((lwV dk fr nd ni sg ln z (mc M0 c)) i) := by
                simp only [mo_near]
                rw [if_pos ⟨hb, Or.inl c70⟩]
              rw [hk9] at k
              rw [hv] at k
              refine wp_iload eX9_leastWait_80 rfl ?_
              refine ist_4 eX9_leastWait_82 ?_
              refine wp_iload eX9_leastWait_84 rfl ?_
              refine ist_5 eX9_leastWait_86 ?_
              refine inc_6 eX9_leastWait_88 ?_
              refine wp_goto eX9_leastWait_91 ?_
              exact ih (i + 1) _ _ M1 _ (by omega) (by omega) (by omega) (by omega) (hLY.tr g1) g2 k
            · refine wp_iload eX9_leastWait_73 rfl ?_
              refine wp_iload eX9_leastWait_75 rfl ?_
              refine wp_icmp_ge eX9_leastWait_77 (fun c77 => ?_) (fun c77 => ?_)
              · have hk9 : mo_near (lwV dk fr nd ni sg ln z (mc M0 c)) s (n + 1) i b l = mo_near (lwV dk fr nd ni sg ln z (mc M0 c)) s n (i + 1) b l := by
                  simp only [mo_near]
                  rw [if_neg (fun q => q.2.elim (fun z9 => c70 z9) (fun z9 => by rw [hv] at z9; omega))]
                rw [hk9] at k
                refine inc_6 eX9_leastWait_88 ?_
                refine wp_goto eX9_leastWait_91 ?_
                exact ih (i + 1) _ _ M1 _ (by omega) (by omega) (by omega) (by omega) (hLY.tr g1) g2 k
              · have hk9 : mo_near (lwV dk fr nd ni sg ln z (mc M0 c)) s (n + 1) i b l = mo_near (lwV dk fr nd ni sg ln z (mc M0 c)) s n (i + 1) i ((lwV dk fr nd ni sg ln z (mc M0 c)) i) := by
                  simp only [mo_near]
                  rw [if_pos ⟨hb, Or.inr (by rw [hv]; omega)⟩]
                rw [hk9] at k
                rw [hv] at k
                refine wp_iload eX9_leastWait_80 rfl ?_
                refine ist_4 eX9_leastWait_82 ?_
                refine wp_iload eX9_leastWait_84 rfl ?_
                refine ist_5 eX9_leastWait_86 ?_
                refine inc_6 eX9_leastWait_88 ?_
                refine wp_goto eX9_leastWait_91 ?_
                exact ih (i + 1) _ _ M1 _ (by omega) (by omega) (by omega) (by omega) (hLY.tr g1) g2 k
          · have hb5 : bs (mc M0 c 5) i = true := by
              cases h : bs (mc M0 c 5) i
              · rw [h] at c50; exact absurd rfl c50
              · rfl
            refine wp_iconst eX9_leastWait_53 ?_
            refine wp_goto eX9_leastWait_54 ?_
            have hv : (lwV dk fr nd ni sg ln z (mc M0 c)) i = 0 := by
              unfold lwV
              rw [if_pos ⟨by omega, hb5⟩]
            refine ist_7 eX9_leastWait_64 ?_
            refine wp_iload eX9_leastWait_66 rfl ?_
            refine wp_bipush eX9_leastWait_68 ?_
            refine wp_icmp_eq eX9_leastWait_70 (fun c70 => ?_) (fun c70 => ?_)
            · have hk9 : mo_near (lwV dk fr nd ni sg ln z (mc M0 c)) s (n + 1) i b l = mo_near (lwV dk fr nd ni sg ln z (mc M0 c)) s n (i + 1) i ((lwV dk fr nd ni sg ln z (mc M0 c)) i) := by
                simp only [mo_near]
                rw [if_pos ⟨hb, Or.inl c70⟩]
              rw [hk9] at k
              rw [hv] at k
              refine wp_iload eX9_leastWait_80 rfl ?_
              refine ist_4 eX9_leastWait_82 ?_
              refine wp_iload eX9_leastWait_84 rfl ?_
              refine ist_5 eX9_leastWait_86 ?_
              refine inc_6 eX9_leastWait_88 ?_
              refine wp_goto eX9_leastWait_91 ?_
              exact ih (i + 1) _ _ Mc _ (by omega) (by omega) (by omega) (by omega) hLY hML k
            · refine wp_iload eX9_leastWait_73 rfl ?_
              refine wp_iload eX9_leastWait_75 rfl ?_
              refine wp_icmp_ge eX9_leastWait_77 (fun c77 => ?_) (fun c77 => ?_)
              · have hk9 : mo_near (lwV dk fr nd ni sg ln z (mc M0 c)) s (n + 1) i b l = mo_near (lwV dk fr nd ni sg ln z (mc M0 c)) s n (i + 1) b l := by
                  simp only [mo_near]
                  rw [if_neg (fun q => q.2.elim (fun z9 => c70 z9) (fun z9 => by rw [hv] at z9; omega))]
                rw [hk9] at k
                refine inc_6 eX9_leastWait_88 ?_
                refine wp_goto eX9_leastWait_91 ?_
                exact ih (i + 1) _ _ Mc _ (by omega) (by omega) (by omega) (by omega) hLY hML k
              · have hk9 : mo_near (lwV dk fr nd ni sg ln z (mc M0 c)) s (n + 1) i b l = mo_near (lwV dk fr nd ni sg ln z (mc M0 c)) s n (i + 1) i ((lwV dk fr nd ni sg ln z (mc M0 c)) i) := by
                  simp only [mo_near]
                  rw [if_pos ⟨hb, Or.inr (by rw [hv]; omega)⟩]
                rw [hk9] at k
                rw [hv] at k
                refine wp_iload eX9_leastWait_80 rfl ?_
                refine ist_4 eX9_leastWait_82 ?_
                refine wp_iload eX9_leastWait_84 rfl ?_
                refine ist_5 eX9_leastWait_86 ?_
                refine inc_6 eX9_leastWait_88 ?_
                refine wp_goto eX9_leastWait_91 ?_
                exact ih (i + 1) _ _ Mc _ (by omega) (by omega) (by omega) (by omega) hLY hML k
      · have hb : ¬ bs s i = true := by
          intro h
          rw [h] at c29
          exact absurd (by decide) c29
        have hk9 : mo_near (lwV dk fr nd ni sg ln z (mc M0 c)) s (n + 1) i b l = mo_near (lwV dk fr nd ni sg ln z (mc M0 c)) s n (i + 1) b l := by
          simp only [mo_near]
          rw [if_neg (fun q => hb q.1)]
        rw [hk9] at k
        refine wp_goto eX9_leastWait_32 ?_
        refine inc_6 eX9_leastWait_88 ?_
        refine wp_goto eX9_leastWait_91 ?_
        exact ih (i + 1) _ _ Mc _ (by omega) (by omega) (by omega) (by omega) hLY hML k
theorem ct_leastWait {G : bc_G} {M : bc_M} {post : bc_R → bc_M → Prop} {dk fr pop bnd : Int → Int} {nd ni sg ln c s z : Int} (hs : MS M dk fr pop bnd nd ni sg ln) (hc : 0 ≤ c ∧ c < 4) (hsr : 0 ≤ s ∧ s < 65536) (hz : z = 0 ∨ z = 1) (ht : 0 ≤ mc M c 0 ∧ mc M c 0 ≤ 100000000) (h5 : 0 ≤ mc M c 5 ∧ mc M c 5 < 65536) (k : ∀ M' : bc_M, LY M M' → post (.inr (some (vI (mo_near (lwV dk fr nd ni sg ln z (mc M c)) s ni.toNat 0 (-2) 0)))) M') : bc_Call G yX9_leastWait cX9_leastWait 8 (some .int) 12 0 [vR G 33 0, vI c, vI s, vI z] M post := by
  have hni := hs.1.2.1
  refine bc_enter (L := [some (vR G 33 0), some (vI c), some (vI s), some (vI z), none, none, none, none]) (by decide) rfl rfl ?_
  refine wp_aload_n eX9_leastWait_0 rfl ?_
  refine c_X9_242 eX9_leastWait_1 (ct_layP hs (fun M1 hLY hML => ?_))
  refine wp_bipush eX9_leastWait_4 ?_
  refine ist_4 eX9_leastWait_6 ?_
  refine wp_iconst eX9_leastWait_8 ?_
  refine ist_5 eX9_leastWait_9 ?_
  refine wp_iconst eX9_leastWait_11 ?_
  refine ist_6 eX9_leastWait_12 ?_
  exact lp_leastWait hs hc hsr hz ht h5 ni.toNat 0 (-2) 0 M1 none (by omega) (by omega) (by omega) (by omega) hLY hML k
theorem ct_mSoonest {G : bc_G} {M : bc_M} {post : bc_R → bc_M → Prop} {c s : Int} {dk fr pop bnd : Int → Int} {nd ni sg ln : Int} (hI : M 33 0 3 = 1 → MS M dk fr pop bnd nd ni sg ln) (hl : M 33 0 3 = 0 ∨ M 33 0 3 = 1) (k1 : M 33 0 3 = 0 → post (.inr (some (vI 0))) (bc_up M 33 0 4 1)) (k2 : M 33 0 3 = 1 → (c < 0 ∨ M 33 0 7 ≤ c ∨ s < 1 ∨ p2 (M 33 0 6) ≤ s) → post (.inr (some (vI 0))) (bc_up M 33 0 4 2)) (k3 : M 33 0 3 = 1 → ¬ (c < 0 ∨ M 33 0 7 ≤ c ∨ s < 1 ∨ p2 (M 33 0 6) ≤ s) → ∀ M' : bc_M, QM M M' → post (.inr (some (vI (mo_near (lwV dk fr nd ni sg ln 1 (mc M c)) s ni.toNat 0 (-2) 0)))) M') (ha : 0 ≤ M 33 0 2 ∧ M 33 0 2 ≤ 10) (hit : 0 ≤ M 33 0 6 ∧ M 33 0 6 ≤ 16) (hdi : 0 ≤ M 33 0 5 ∧ M 33 0 5 ≤ 4) (hcl : 0 ≤ M 33 0 7 ∧ M 33 0 7 ≤ 4) (hcn : ∀ c, 0 ≤ c → c < M 33 0 7 → (0 ≤ mc M c 0 ∧ mc M c 0 ≤ 100000000) ∧ (0 ≤ mc M c 5 ∧ mc M c 5 < 65536)) (h_c : -2147483648 ≤ c ∧ c < 2147483648 := by omega) (h_s : -2147483648 ≤ s ∧ s < 2147483648 := by omega) : bc_Call G yX9_soonest cX9_soonest 3 (some .int) 13 0 [vR G 33 0, vI c, vI s] M post := by
  refine bc_enter (L := [some (vR G 33 0), some (vI c), some (vI s)]) (by decide) rfl rfl ?_
  refine wp_aload_n eX9_soonest_0 rfl ?_
  refine wp_aload_n eX9_soonest_1 rfl ?_
  refine wp_iload_n eX9_soonest_2 rfl ?_
  refine c_X9_270 eX9_soonest_3 (ct_mIsClient ?_)
  refine wp_if_eq eX9_soonest_6 (fun c6 => ?_) (fun c6 => ?_) (by split <;> decide)
  · have g6 : ¬ (0 ≤ c ∧ c ≤ M 33 0 7 - 1) := by
      intro h9
      rw [if_pos h9] at c6
      exact absurd c6 (by decide)
    refine wp_iconst eX9_soonest_21 ?_
    refine c_X9_201 eX9_soonest_22 (ct_mIsWrong ?_)
    rcases hl with hl0 | hl1
    · rw [show mo_thr M 0 = 1 by unfold mo_thr; rw [if_pos hl0]]
      refine wp_if_eq eX9_soonest_25 (fun c25 => ?_) (fun c25 => ?_)
      · exact absurd c25 (by decide)
      · refine wp_iconst eX9_soonest_28 ?_
        refine wp_goto eX9_soonest_29 ?_
        refine wp_ireturn eX9_soonest_39 ?_
        exact k1 hl0
    · rw [show mo_thr M 0 = 2 by unfold mo_thr; rw [if_neg (by omega), if_pos rfl]]
      refine wp_if_eq eX9_soonest_25 (fun c25 => ?_) (fun c25 => ?_)
      · exact absurd c25 (by decide)
      · refine wp_iconst eX9_soonest_28 ?_
        refine wp_goto eX9_soonest_29 ?_
        refine wp_ireturn eX9_soonest_39 ?_
        exact k2 hl1 (by omega)
  · have g6 : 0 ≤ c ∧ c ≤ M 33 0 7 - 1 := by
      apply Decidable.byContradiction
      intro h9
      rw [if_neg h9] at c6
      exact absurd rfl c6
    refine wp_aload_n eX9_soonest_9 rfl ?_
    refine wp_iload_n eX9_soonest_10 rfl ?_
    refine c_X9_357 eX9_soonest_11 (ct_isSet ?_)
    refine wp_if_eq eX9_soonest_14 (fun c14 => ?_) (fun c14 => ?_) (by split <;> decide)
    · have g14 : ¬ (1 ≤ s ∧ s ≤ p2 (M 33 0 6) - 1) := by
        intro h9
        rw [if_pos h9] at c14
        exact absurd c14 (by decide)
      refine wp_iconst eX9_soonest_21 ?_
      refine c_X9_201 eX9_soonest_22 (ct_mIsWrong ?_)
      rcases hl with hl0 | hl1
      · rw [show mo_thr M 0 = 1 by unfold mo_thr; rw [if_pos hl0]]
        refine wp_if_eq eX9_soonest_25 (fun c25 => ?_) (fun c25 => ?_)
        · exact absurd c25 (by decide)
        · refine wp_iconst eX9_soonest_28 ?_
          refine wp_goto eX9_soonest_29 ?_
          refine wp_ireturn eX9_soonest_39 ?_
          exact k1 hl0
      · rw [show mo_thr M 0 = 2 by unfold mo_thr; rw [if_neg (by omega), if_pos rfl]]
        refine wp_if_eq eX9_soonest_25 (fun c25 => ?_) (fun c25 => ?_)
        · exact absurd c25 (by decide)
        · refine wp_iconst eX9_soonest_28 ?_
          refine wp_goto eX9_soonest_29 ?_
          refine wp_ireturn eX9_soonest_39 ?_
          exact k2 hl1 (by omega)
    · have g14 : 1 ≤ s ∧ s ≤ p2 (M 33 0 6) - 1 := by
        apply Decidable.byContradiction
        intro h9
        rw [if_neg h9] at c14
        exact absurd rfl c14
      refine wp_iconst eX9_soonest_17 ?_
      refine wp_goto eX9_soonest_18 ?_
      refine c_X9_201 eX9_soonest_22 (ct_mIsWrong ?_)
      rcases hl with hl0 | hl1
      · rw [show mo_thr M 1 = 1 by unfold mo_thr; rw [if_pos hl0]]
        refine wp_if_eq eX9_soonest_25 (fun c25 => ?_) (fun c25 => ?_)
        · exact absurd c25 (by decide)
        · refine wp_iconst eX9_soonest_28 ?_
          refine wp_goto eX9_soonest_29 ?_
          refine wp_ireturn eX9_soonest_39 ?_
          exact k1 hl0
      · rw [show mo_thr M 1 = 0 by unfold mo_thr; rw [if_neg (by omega), if_neg (by decide)]]
        have hs0 := up_ms (f := 4) (v := 0) (hI hl1) (by decide) (by decide)
        have hs9 := hI hl1
        have hni := hs0.1.2.1
        have hnd := hs0.1.1
        have e6 := hs9.2.1.2
        have e5 := hs9.2.1.1
        refine wp_if_eq eX9_soonest_25 (fun c25 => ?_) (fun c25 => ?_)
        · have emc : mc (bc_up M 33 0 4 0) c = mc M c := by funext f; unfold mc; rw [up_kne (by decide)]
          have hcc := hcn c (by omega) (by omega)
          have hp2 := p2_rng (n := M 33 0 6) (by omega)
          refine wp_aload_n eX9_soonest_32 rfl ?_
          refine wp_iload_n eX9_soonest_33 rfl ?_
          refine wp_iload_n eX9_soonest_34 rfl ?_
          refine wp_iconst eX9_soonest_35 ?_
          refine c_X9_367 eX9_soonest_36 (ct_leastWait hs0 (by omega) (by omega) (Or.inr rfl) (by rw [emc]; exact hcc.1) (by rw [emc]; exact hcc.2) (fun M1 g1 => ?_))
          refine wp_ireturn eX9_soonest_39 ?_
          rw [emc]
          exact k3 hl1 (by omega) M1 (QM.b0.ly g1)
        · exact absurd (by decide) c25
theorem ct_mHint {G : bc_G} {M : bc_M} {post : bc_R → bc_M → Prop} {c : Int} {dk fr pop bnd : Int → Int} {nd ni sg ln : Int} (hI : M 33 0 3 = 1 → MS M dk fr pop bnd nd ni sg ln) (hl : M 33 0 3 = 0 ∨ M 33 0 3 = 1) (k1 : M 33 0 3 = 0 → post (.inr (some (vI 0))) (bc_up M 33 0 4 1)) (k2 : M 33 0 3 = 1 → (c < 0 ∨ M 33 0 7 ≤ c) → post (.inr (some (vI 0))) (bc_up M 33 0 4 2)) (k3 : M 33 0 3 = 1 → ¬ (c < 0 ∨ M 33 0 7 ≤ c) → ∀ M' : bc_M, QM M M' → post (.inr (some (vI (mo_near (lwV dk fr nd ni sg ln 0 (mc M c)) (mc M c 5) ni.toNat 0 (-2) 0)))) M') (ha : 0 ≤ M 33 0 2 ∧ M 33 0 2 ≤ 10) (hit : 0 ≤ M 33 0 6 ∧ M 33 0 6 ≤ 16) (hdi : 0 ≤ M 33 0 5 ∧ M 33 0 5 ≤ 4) (hcl : 0 ≤ M 33 0 7 ∧ M 33 0 7 ≤ 4) (hcn : ∀ c, 0 ≤ c → c < M 33 0 7 → (0 ≤ mc M c 0 ∧ mc M c 0 ≤ 100000000) ∧ (0 ≤ mc M c 5 ∧ mc M c 5 < 65536)) (h_c : -2147483648 ≤ c ∧ c < 2147483648 := by omega) : bc_Call G yX9_hint cX9_hint 2 (some .int) 13 0 [vR G 33 0, vI c] M post := by
  refine bc_enter (L := [some (vR G 33 0), some (vI c)]) (by decide) rfl rfl ?_
  refine wp_aload_n eX9_hint_0 rfl ?_
  refine wp_aload_n eX9_hint_1 rfl ?_
  refine wp_iload_n eX9_hint_2 rfl ?_
  refine c_X9_270 eX9_hint_3 (ct_mIsClient ?_)
  by_cases hb9 : 0 ≤ c ∧ c ≤ M 33 0 7 - 1
  · rw [if_pos hb9]
    refine c_X9_201 eX9_hint_6 (ct_mIsWrong ?_)
    rcases hl with hl0 | hl1
    · rw [show mo_thr M 1 = 1 by unfold mo_thr; rw [if_pos hl0]]
      refine wp_if_eq eX9_hint_9 (fun c9 => ?_) (fun c9 => ?_)
      · exact absurd c9 (by decide)
      · refine wp_iconst eX9_hint_12 ?_
        refine wp_goto eX9_hint_13 ?_
        refine wp_ireturn eX9_hint_28 ?_
        exact k1 hl0
    · rw [show mo_thr M 1 = 0 by unfold mo_thr; rw [if_neg (by omega), if_neg (by decide)]]
      have hs0 := up_ms (f := 4) (v := 0) (hI hl1) (by decide) (by decide)
      have hs9 := hI hl1
      have hni := hs0.1.2.1
      have hnd := hs0.1.1
      have e6 := hs9.2.1.2
      have e5 := hs9.2.1.1
      refine wp_if_eq eX9_hint_9 (fun c9 => ?_) (fun c9 => ?_)
      · have emc : mc (bc_up M 33 0 4 0) c = mc M c := by funext f; unfold mc; rw [up_kne (by decide)]
        have hcc := hcn c (by omega) (by omega)
        refine wp_aload_n eX9_hint_16 rfl ?_
        refine wp_iload_n eX9_hint_17 rfl ?_
        refine wp_aload_n eX9_hint_18 rfl ?_
        refine wp_iload_n eX9_hint_19 rfl ?_
        refine wp_iconst eX9_hint_20 ?_
        refine c_X9_257 eX9_hint_21 (ct_ofClient (by omega) (by omega) ?_)
        rw [show bc_up M 33 0 4 0 34 0 (54 + 38 * c + 5) = mc M c 5 by unfold mc; rw [up_kne (by decide)]]
        refine wp_iconst eX9_hint_24 ?_
        refine c_X9_367 eX9_hint_25 (ct_leastWait hs0 (by omega) hcc.2 (Or.inl rfl) (by rw [emc]; exact hcc.1) (by rw [emc]; exact hcc.2) (fun M1 g1 => ?_))
        refine wp_ireturn eX9_hint_28 ?_
        rw [emc]
        exact k3 hl1 (by omega) M1 (QM.b0.ly g1)
      · exact absurd (by decide) c9
  · rw [if_neg hb9]
    refine c_X9_201 eX9_hint_6 (ct_mIsWrong ?_)
    rcases hl with hl0 | hl1
    · rw [show mo_thr M 0 = 1 by unfold mo_thr; rw [if_pos hl0]]
      refine wp_if_eq eX9_hint_9 (fun c9 => ?_) (fun c9 => ?_)
      · exact absurd c9 (by decide)
      · refine wp_iconst eX9_hint_12 ?_
        refine wp_goto eX9_hint_13 ?_
        refine wp_ireturn eX9_hint_28 ?_
        exact k1 hl0
    · rw [show mo_thr M 0 = 2 by unfold mo_thr; rw [if_neg (by omega), if_pos rfl]]
      refine wp_if_eq eX9_hint_9 (fun c9 => ?_) (fun c9 => ?_)
      · exact absurd c9 (by decide)
      · refine wp_iconst eX9_hint_12 ?_
        refine wp_goto eX9_hint_13 ?_
        refine wp_ireturn eX9_hint_28 ?_
        exact k2 hl1 (by omega)
