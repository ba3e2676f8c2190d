theorem pg_viol_rng {M : bc_M} {j z : Int} : ∀ (n : Nat) (i s : Int), 0 ≤ i → i + n ≤ 16 → (0 ≤ s ∧ s < 65536) → 0 ≤ pg_viol M j z n i s ∧ pg_viol M j z n i s < 65536
  | 0, _, _, _, _, h => h
  | n + 1, i, s, h1, h2, h => by
    simp only [pg_viol]
    have hr := bs_add_rng (s := s) (i := i) (n := 16) (by omega) (by omega)
    exact pg_viol_rng n (i + 1) _ (by omega) (by omega) (by split <;> omega)
def sp_V (dk fr bnd : Int → Int) (nd ni sg ln : Int) : Int := pg_viol (spX dk fr bnd bnd nd ni sg ln) 0 0 ni.toNat 0 0
theorem sp_V_of {M : bc_M} {j z nd ni sg ln : Int} {dk fr bnd : Int → Int} (hv : SV dk fr nd ni sg ln) (h : BR M j dk fr nd ni sg ln) (e : M 10 z = bnd) : pg_viol M j z ni.toNat 0 0 = sp_V dk fr bnd nd ni sg ln := by
  unfold sp_V
  refine PE.viol (BR.pe hv h spX_br) (fun i a b => ?_) _ _ _ (by omega) (by have := hv.2.1; omega)
  rw [e]
  unfold spX
  rw [row_at]
theorem sp_V_rng {nd ni sg ln : Int} {dk fr bnd : Int → Int} (hv : SV dk fr nd ni sg ln) : 0 ≤ sp_V dk fr bnd nd ni sg ln ∧ sp_V dk fr bnd nd ni sg ln < 65536 := by
  unfold sp_V
  exact pg_viol_rng _ _ _ (by omega) (by have := hv.2.1; omega) (by omega)
theorem sp_fast_rng {fr : Int → Int} {own nd : Int} : ∀ (n : Nat) (d f s : Int), d + n = nd → 0 ≤ d → (-2 ≤ f ∧ f < nd) → -2 ≤ sp_fast fr own n d f s ∧ sp_fast fr own n d f s < nd
  | 0, _, _, _, _, _, h => h
  | n + 1, d, f, s, h1, h2, h => by
    simp only [sp_fast]
    split
    · exact sp_fast_rng n (d + 1) _ _ (by omega) (by omega) (by omega)
    · exact sp_fast_rng n (d + 1) _ _ (by omega) (by omega) h
def sp_fd (fr : Int → Int) (nd d : Int) : Int := sp_fast fr (fr d) nd.toNat 0 (-2) 7
theorem sp_fd_rng {fr : Int → Int} {nd d : Int} (h : 1 ≤ nd) : -2 ≤ sp_fd fr nd d ∧ sp_fd fr nd d < nd := sp_fast_rng _ _ _ _ (by omega) (by omega) (by omega)
def ftm (fr dk : Int → Int) (nd s : Int) : Nat → Int → Int
  | 0, _ => -2
  | n + 1, i => if bs s i = true ∧ 0 ≤ sp_fd fr nd (dk i) then i else ftm fr dk nd s n (i + 1)
theorem ftm_rng {fr dk : Int → Int} {nd s : Int} : ∀ (n : Nat) (i : Int), ftm fr dk nd s n i = -2 ∨ (i ≤ ftm fr dk nd s n i ∧ ftm fr dk nd s n i < i + n ∧ 0 ≤ sp_fd fr nd (dk (ftm fr dk nd s n i)))
  | 0, _ => Or.inl rfl
  | n + 1, i => by
    simp only [ftm]
    split
    · rename_i h; exact Or.inr ⟨by omega, by omega, h.2⟩
    · have := ftm_rng (fr := fr) (dk := dk) (nd := nd) (s := s) n (i + 1)
      omega
def md (fr bnd : Int → Int) (nd ni sg ln : Int) : Nat → Int → (Int → Int) → Int × (Int → Int)
  | 0, m, dk => (m, dk)
  | n + 1, m, dk => if ftm fr dk nd (sp_V dk fr bnd nd ni sg ln) ni.toNat 0 < 0 then (m, dk) else md fr bnd nd ni sg ln n (m + 1) (bc_u dk (ftm fr dk nd (sp_V dk fr bnd nd ni sg ln) ni.toNat 0) (sp_fd fr nd (dk (ftm fr dk nd (sp_V dk fr bnd nd ni sg ln) ni.toNat 0))))
def mdP (z j : Int) : Nat → Int → Prop := fun k' j' => (k' = 9 ∧ j' = z) ∨ bpP j k' j'
def trP : Nat → Int → Prop := fun k' j' => ((k' = 6 ∨ k' = 7 ∨ k' = 8 ∨ k' = 9 ∨ k' = 10) ∧ j' = 12) ∨ bpP 1 k' j'
theorem LI.cong {M M1 : bc_M} {n : Int} (h : LI M n) (e : ∀ (k : Nat) (j : Int), ((5 ≤ k ∧ k ≤ 10 ∧ j ≤ 11) ∨ (12 ≤ k ∧ k ≤ 14 ∧ j < 48) ∨ (k = 15 ∧ j = 0) ∨ ((k = 17 ∨ k = 18 ∨ k = 19) ∧ j = 0) ∨ (k = 21 ∧ j < 16)) → M1 k j = M k j) : LI M1 n := by
  obtain ⟨hsi, hbs, hn, hr, hri⟩ := h
  have h16 := hsi.1.1.2.1
  have e15 := e 15 0 (by omega)
  refine ⟨hsi.cong (fun k hk => e k 1 (by omega)) (fun k c hk a b => e k c (by omega)), hbs.cong (fun k hk => e k 1 (by omega)) (fun k hk => e k 0 (by omega)) (fun q a b => e 21 q (by omega)) (by omega), ?_, ?_, fun r a b => ?_⟩
  · rw [e15]; exact hn
  · rw [e15]; exact hr
  · rw [e15] at b ⊢
    have := hri r a b
    have h9 : 0 ≤ (M 15 0 1 - 1 - r) % 10 ∧ (M 15 0 1 - 1 - r) % 10 < 10 := by omega
    generalize (M 15 0 1 - 1 - r) % 10 = s at this h9 ⊢
    exact this.cong (fun k hk => e k _ (by omega)) (fun k c hk a b => e k c (by omega))
theorem lp_ftm {G : bc_G} {M : bc_M} {post : bc_R → bc_M → Prop} {z nd ni : Int} {dk fr : Int → Int} (hz : 0 ≤ z ∧ z < 13) (hnd : 1 ≤ nd ∧ nd ≤ 4) (hni : 1 ≤ ni ∧ ni ≤ 16) (e62 : M 6 z 2 = nd) (e63 : M 6 z 3 = ni) (e7 : M 7 z = fr) (e9 : M 9 z = dk) (hfr : ∀ d, 0 ≤ d → d < nd → 1 ≤ fr d ∧ fr d ≤ 6) (hdk : ∀ i, 0 ≤ i → i < ni → 0 ≤ dk i ∧ dk i < nd) {s : Int} (hs : 0 ≤ s ∧ s < 65536) : ∀ (n : Nat) (i : Int) (h1 : i + n = ni) (h2 : 0 ≤ i) (k : post (.inr (some (vI (ftm fr dk nd s n i)))) M), bc_W G RX8 cX8_firstToMove 3 (some .int) 3 0 0 2 [some (vR G 6 z), some (vI s), some (vI i)] [] M post := by
  intro n
  induction n with
  | zero =>
    intro i h1 h2 k
    refine wp_iload_n eX8_firstToMove_2 rfl ?_
    refine wp_aload_n eX8_firstToMove_3 rfl ?_
    refine gf_X8_122 eX8_firstToMove_4 ?_
    refine wp_icmp_ge eX8_firstToMove_7 (fun c7 => ?_) (fun c7 => ?_)
    · refine wp_bipush eX8_firstToMove_34 ?_
      refine wp_ireturn eX8_firstToMove_36 ?_
      exact k
    · omega
  | succ n ih =>
    intro i h1 h2 k
    refine wp_iload_n eX8_firstToMove_2 rfl ?_
    refine wp_aload_n eX8_firstToMove_3 rfl ?_
    refine gf_X8_122 eX8_firstToMove_4 ?_
    refine wp_icmp_ge eX8_firstToMove_7 (fun c7 => ?_) (fun c7 => ?_)
    · omega
    · simp only [ftm] at k
      refine wp_iload_n eX8_firstToMove_10 rfl ?_
      refine wp_iload_n eX8_firstToMove_11 rfl ?_
      refine c_X8_240 eX8_firstToMove_12 (ct_isIn ?_)
      refine wp_if_eq eX8_firstToMove_15 (fun c15 => ?_) (fun c15 => ?_) (by split <;> omega)
      · have hb : ¬ bs s i = true := by
          intro h
          rw [h] at c15
          exact absurd c15 (by decide)
        rw [if_neg (fun q => hb q.1)] at k
        refine inc_2 eX8_firstToMove_28 ?_
        refine wp_goto eX8_firstToMove_31 ?_
        exact ih (i + 1) (by omega) (by omega) k
      · have hb : bs s i = true := by
          cases h : bs s i
          · rw [h] at c15; exact absurd rfl c15
          · rfl
        refine wp_aload_n eX8_firstToMove_18 rfl ?_
        refine wp_iload_n eX8_firstToMove_19 rfl ?_
        refine c_X8_275 eX8_firstToMove_20 (ct_fasterDisk (nd := nd) (fr := fr) hz (by omega) (by omega) e62 e7 hfr (by rw [e9]; exact hdk i (by omega) (by omega)) ?_)
        rw [e9, show sp_fast fr (fr (dk (i))) nd.toNat 0 (-2) 7 = sp_fd fr nd (dk (i)) from rfl]
        have hfd := sp_fd_rng (fr := fr) (d := dk (i)) hnd.1
        refine wp_if_lt eX8_firstToMove_23 (fun c23 => ?_) (fun c23 => ?_)
        · rw [if_neg (by omega)] at k
          refine inc_2 eX8_firstToMove_28 ?_
          refine wp_goto eX8_firstToMove_31 ?_
          exact ih (i + 1) (by omega) (by omega) k
        · rw [if_pos ⟨hb, by omega⟩] at k
          refine wp_iload_n eX8_firstToMove_26 rfl ?_
          refine wp_ireturn eX8_firstToMove_27 ?_
          exact k
theorem ct_firstToMove {G : bc_G} {M : bc_M} {post : bc_R → bc_M → Prop} {z nd ni : Int} {dk fr : Int → Int} (hz : 0 ≤ z ∧ z < 13) (hnd : 1 ≤ nd ∧ nd ≤ 4) (hni : 1 ≤ ni ∧ ni ≤ 16) (e62 : M 6 z 2 = nd) (e63 : M 6 z 3 = ni) (e7 : M 7 z = fr) (e9 : M 9 z = dk) (hfr : ∀ d, 0 ≤ d → d < nd → 1 ≤ fr d ∧ fr d ≤ 6) (hdk : ∀ i, 0 ≤ i → i < ni → 0 ≤ dk i ∧ dk i < nd) {s : Int} (hs : 0 ≤ s ∧ s < 65536) (k : post (.inr (some (vI (ftm fr dk nd s ni.toNat 0)))) M) : bc_Call G yX8_firstToMove cX8_firstToMove 3 (some .int) 3 0 [vR G 6 z, vI s] M post := by
  refine bc_enter (L := [some (vR G 6 z), some (vI s), none]) (by decide) rfl rfl ?_
  refine wp_iconst eX8_firstToMove_0 ?_
  refine ist_2 eX8_firstToMove_1 ?_
  exact lp_ftm hz hnd hni e62 e63 e7 e9 hfr hdk hs ni.toNat 0 (by omega) (by omega) k
set_option maxHeartbeats 1000000 in
theorem lp_mend {G : bc_G} {post : bc_R → bc_M → Prop} {z j nd ni sg ln : Int} {fr bnd : Int → Int} {M0 : bc_M} (hz : 0 ≤ z ∧ z < 13) (hj : 0 ≤ j ∧ j < 2) (e7 : M0 7 z = fr) (e10 : M0 10 z = bnd) (e60 : M0 6 z 0 = sg) (e61 : M0 6 z 1 = ln) (e62 : M0 6 z 2 = nd) (e63 : M0 6 z 3 = ni) (hbn : ∀ i, 0 ≤ i → i < ni → 0 ≤ bnd i ∧ bnd i ≤ 999) : ∀ (n : Nat) (mv : Int) (dk : Int → Int) (Mc : bc_M) (y : Option Value) (h1 : mv + n = 60) (h2 : 0 ≤ mv) (hF : Fr (mdP z j) M0 Mc) (e9 : Mc 9 z = dk) (hV : SV dk fr nd ni sg ln) (hB : BR Mc j dk fr nd ni sg ln) (k : ∀ M' : bc_M, Fr (mdP z j) M0 M' → M' 9 z = (md fr bnd nd ni sg ln n mv dk).2 → SV (md fr bnd nd ni sg ln n mv dk).2 fr nd ni sg ln → BR M' j (md fr bnd nd ni sg ln n mv dk).2 fr nd ni sg ln → post (.inr (some (vI (md fr bnd nd ni sg ln n mv dk).1))) M'), bc_W G RX8 cX8_mend 4 (some .int) 7 0 0 2 [some (vR G 6 z), some (vR G 17 j), some (vI mv), y] [] Mc post := by
  intro n
  induction n with
  | zero =>
    intro mv dk Mc y h1 h2 hF e9 hV hB k
    have f60 : Mc 6 z 0 = sg := by rw [hF 6 z (by unfold mdP bpP; omega)]; exact e60
    have f61 : Mc 6 z 1 = ln := by rw [hF 6 z (by unfold mdP bpP; omega)]; exact e61
    have f62 : Mc 6 z 2 = nd := by rw [hF 6 z (by unfold mdP bpP; omega)]; exact e62
    have f63 : Mc 6 z 3 = ni := by rw [hF 6 z (by unfold mdP bpP; omega)]; exact e63
    have f7 : Mc 7 z = fr := by rw [hF 7 z (by unfold mdP bpP; omega)]; exact e7
    have f10 : Mc 10 z = bnd := by rw [hF 10 z (by unfold mdP bpP; omega)]; exact e10
    have hpv := BR.pv hV hB
    have hni9 := hV.2.1
    have hnd9 := hV.1
    refine wp_iload_n eX8_mend_2 rfl ?_
    refine wp_bipush eX8_mend_3 ?_
    refine wp_icmp_ge eX8_mend_5 (fun c5 => ?_) (fun c5 => ?_)
    · have e60m : mv = 60 := by omega
      subst e60m
      simp only [md] at k
      refine wp_bipush eX8_mend_46 ?_
      refine wp_ireturn eX8_mend_48 ?_
      exact k _ hF e9 hV hB
    · omega
  | succ n ih =>
    intro mv dk Mc y h1 h2 hF e9 hV hB k
    have f60 : Mc 6 z 0 = sg := by rw [hF 6 z (by unfold mdP bpP; omega)]; exact e60
    have f61 : Mc 6 z 1 = ln := by rw [hF 6 z (by unfold mdP bpP; omega)]; exact e61
    have f62 : Mc 6 z 2 = nd := by rw [hF 6 z (by unfold mdP bpP; omega)]; exact e62
    have f63 : Mc 6 z 3 = ni := by rw [hF 6 z (by unfold mdP bpP; omega)]; exact e63
    have f7 : Mc 7 z = fr := by rw [hF 7 z (by unfold mdP bpP; omega)]; exact e7
    have f10 : Mc 10 z = bnd := by rw [hF 10 z (by unfold mdP bpP; omega)]; exact e10
    have hpv := BR.pv hV hB
    have hni9 := hV.2.1
    have hnd9 := hV.1
    refine wp_iload_n eX8_mend_2 rfl ?_
    refine wp_bipush eX8_mend_3 ?_
    refine wp_icmp_ge eX8_mend_5 (fun c5 => ?_) (fun c5 => ?_)
    · omega
    · refine wp_aload_n eX8_mend_8 rfl ?_
      refine wp_aload_n eX8_mend_9 rfl ?_
      refine wp_aload_n eX8_mend_10 rfl ?_
      refine c_X8_202 eX8_mend_11 (ct_violators (ni := ni) hj hpv.1 hz f63 (fun i a b => by rw [f10]; exact hbn i a b) ?_)
      rw [sp_V_of hV hB f10]
      have hvr := sp_V_rng (bnd := bnd) hV
      refine c_X8_272 eX8_mend_14 (ct_firstToMove (nd := nd) (ni := ni) (dk := dk) (fr := fr) hz hV.1 hV.2.1 f62 f63 f7 e9 hV.2.2.2.2.1 hV.2.2.2.2.2 hvr ?_)
      have hft := ftm_rng (fr := fr) (dk := dk) (nd := nd) (s := sp_V dk fr bnd nd ni sg ln) ni.toNat 0
      simp only [md] at k
      generalize ftm fr dk nd (sp_V dk fr bnd nd ni sg ln) ni.toNat 0 = x at hft k ⊢
      refine ist_3 eX8_mend_17 ?_
      refine wp_iload_n eX8_mend_18 rfl ?_
      refine wp_if_ge eX8_mend_19 (fun c19 => ?_) (fun c19 => ?_)
      · refine wp_aload_n eX8_mend_24 rfl ?_
        refine gf_X8_170 eX8_mend_25 ?_
        refine wp_iload_n eX8_mend_28 rfl ?_
        refine wp_aload_n eX8_mend_29 rfl ?_
        refine wp_iload_n eX8_mend_30 rfl ?_
        refine c_X8_275 eX8_mend_31 (ct_fasterDisk (nd := nd) (fr := fr) hz (by omega) (by omega) f62 f7 hV.2.2.2.2.1 (by rw [e9]; exact hV.2.2.2.2.2 x (by omega) (by omega)) ?_)
        rw [e9, show sp_fast fr (fr (dk (x))) nd.toNat 0 (-2) 7 = sp_fd fr nd (dk (x)) from rfl]
        have hfd := sp_fd_rng (fr := fr) (d := dk (x)) hV.1.1
        refine as_9 eX8_mend_34 ?_
        refine wp_aload_n eX8_mend_35 rfl ?_
        refine wp_aload_n eX8_mend_36 rfl ?_
        refine c_X8_115 eX8_mend_37 (ct_build (nd := nd) (ni := ni) (sg := sg) (ln := ln) (dk := bc_u dk x (sp_fd fr nd (dk x))) (fr := fr) hj hz (hV.dk (by omega)) (by rw [up_at, e9]) (by rw [up_kne (by decide)]; exact f7) (by rw [up_kne (by decide)]; exact f60) (by rw [up_kne (by decide)]; exact f61) (by rw [up_kne (by decide)]; exact f62) (by rw [up_kne (by decide)]; exact f63) (fun M2 hF2 hB2 => ?_))
        rw [if_neg (by omega)] at k
        refine inc_2 eX8_mend_40 ?_
        refine wp_goto eX8_mend_43 ?_
        exact ih (mv + 1) _ M2 _ (by omega) (by omega) (Fr.tr (Fr.tr hF (Fr.up (Or.inl ⟨rfl, rfl⟩))) (hF2.mono (fun k9 j9 h9 => Or.inr h9))) (by rw [hF2 9 z (by unfold bpP; omega), up_at, e9]) (hV.dk (by omega)) hB2 k
      · rw [if_pos (by omega)] at k
        refine wp_iload_n eX8_mend_22 rfl ?_
        refine wp_ireturn eX8_mend_23 ?_
        exact k _ hF e9 hV hB
/-- moves, and disks then -/
def mdR (M : bc_M) (z : Int) : Int × (Int → Int) := (md (M 7 z) (M 10 z) (M 6 z 2) (M 6 z 3) (M 6 z 0) (M 6 z 1) 60 0 (M 9 z))
theorem ct_mend {G : bc_G} {M : bc_M} {post : bc_R → bc_M → Prop} {z j : Int} (hz : 0 ≤ z ∧ z < 13) (hj : 0 ≤ j ∧ j < 2) (hs : SM M z) (hb : BS M j z) (k : ∀ M' : bc_M, Fr (mdP z j) M M' → M' 9 z = (mdR M z).2 → SV (mdR M z).2 (M 7 z) (M 6 z 2) (M 6 z 3) (M 6 z 0) (M 6 z 1) → BR M' j (mdR M z).2 (M 7 z) (M 6 z 2) (M 6 z 3) (M 6 z 0) (M 6 z 1) → post (.inr (some (vI (mdR M z).1))) M') : bc_Call G yX8_mend cX8_mend 4 (some .int) 7 0 [vR G 6 z, vR G 17 j] M post := by
  refine bc_enter (L := [some (vR G 6 z), some (vR G 17 j), none, none]) (by decide) rfl rfl ?_
  refine wp_iconst eX8_mend_0 ?_
  refine ist_2 eX8_mend_1 ?_
  exact lp_mend hz hj rfl rfl rfl rfl rfl rfl (fun i a b => (hs.2 i a b).2) 60 0 (M 9 z) M none (by omega) (by omega) Fr.rf rfl hs.1 hb k
theorem ct_repair {G : bc_G} {M : bc_M} {post : bc_R → bc_M → Prop} {n : Int} (hl : M 1 0 3 = 0 ∨ M 1 0 3 = 1) (hI : M 1 0 3 = 1 → LI M n) (k1 : M 1 0 3 = 0 → post (.inl "java/lang/IllegalStateException") M) (k3 : M 1 0 3 = 1 → ∀ M1 : bc_M, REM M M1 → LI M1 n → ∀ M2 : bc_M, Fr (mdP 1 0) M1 M2 → M2 9 1 = (mdR M1 1).2 → SV (mdR M1 1).2 (M1 7 1) (M1 6 1 2) (M1 6 1 3) (M1 6 1 0) (M1 6 1 1) → BR M2 0 (mdR M1 1).2 (M1 7 1) (M1 6 1 2) (M1 6 1 3) (M1 6 1 0) (M1 6 1 1) → post (.inr (some (vI ((mdR M1 1).1)))) M2) : bc_Call G yX8_repair cX8_repair 1 (some .int) 9 1 [vR G 1 0] M post := by
  refine bc_enter (L := [some (vR G 1 0)]) (by decide) rfl rfl ?_
  refine wp_aload_n eX8_repair_0 rfl ?_
  refine cx_X8_125 eX8_repair_1 (ct_needCarousel k1 (fun hc0 => ?_))
  have hL1 : M 1 0 3 = 1 := by omega
  obtain ⟨hsi, hbr, hhn, hhr, hri⟩ := hI hL1
  have hsm := hsi.1
  have hni := hsm.1.2.1
  have hnd := hsm.1.1
  have hls := hsi.2.2.1
  have hpv := BR.pv hsm.1 hbr
  refine wp_aload_n eX8_repair_4 rfl ?_
  refine gf_X8_44 eX8_repair_5 ?_
  refine wp_aload_n eX8_repair_8 rfl ?_
  refine gf_X8_38 eX8_repair_9 ?_
  refine c_X8_134 eX8_repair_12 (ct_rem (hI hL1) (fun M1 hR hL9 => ?_))
  obtain ⟨tsi, tbr, thn, thr, tri⟩ := id hL9
  have tsm := tsi.1
  have tpv := BR.pv tsm.1 tbr
  have e6 : M1 6 1 = M 6 1 := hR.k hhn.1 (by decide) (by omega)
  have e5 : M1 5 1 = M 5 1 := hR.k hhn.1 (by decide) (by omega)
  refine wp_aload_n eX8_repair_15 rfl ?_
  refine gf_X8_38 eX8_repair_16 ?_
  refine gf_X8_112 eX8_repair_19 ?_
  refine wp_aload_n eX8_repair_22 rfl ?_
  refine gf_X8_51 eX8_repair_23 ?_
  refine c_X8_173 eX8_repair_26 (ct_mend (z := 1) (j := 0) (by omega) (by omega) tsm tbr (fun M2 hF2 q9 hsv hb2 => ?_))
  refine wp_ireturn eX8_repair_29 ?_
  exact k3 hL1 M1 hR hL9 M2 hF2 q9 hsv hb2
set_option maxHeartbeats 1000000 in
theorem ct_afterRepair {G : bc_G} {M : bc_M} {post : bc_R → bc_M → Prop} {n : Int} (hl : M 1 0 3 = 0 ∨ M 1 0 3 = 1) (hI : M 1 0 3 = 1 → LI M n) (k1 : M 1 0 3 = 0 → post (.inl "java/lang/IllegalStateException") M) (k3 : M 1 0 3 = 1 → ∀ M' : bc_M, Fr trP M M' → post (.inr (some (vI (sp_V (mdR M 1).2 (M 7 1) (M 10 1) (M 6 1 2) (M 6 1 3) (M 6 1 0) (M 6 1 1))))) M') : bc_Call G yX8_afterRepair cX8_afterRepair 1 (some .int) 9 1 [vR G 1 0] M post := by
  refine bc_enter (L := [some (vR G 1 0)]) (by decide) rfl rfl ?_
  refine wp_aload_n eX8_afterRepair_0 rfl ?_
  refine cx_X8_125 eX8_afterRepair_1 (ct_needCarousel k1 (fun hc0 => ?_))
  have hL1 : M 1 0 3 = 1 := by omega
  obtain ⟨hsi, hbr, hhn, hhr, hri⟩ := hI hL1
  have hsm := hsi.1
  have hni := hsm.1.2.1
  have hnd := hsm.1.1
  have hls := hsi.2.2.1
  have hpv := BR.pv hsm.1 hbr
  refine wp_aload_n eX8_afterRepair_4 rfl ?_
  refine gf_X8_58 eX8_afterRepair_5 ?_
  refine wp_aload_n eX8_afterRepair_8 rfl ?_
  refine gf_X8_38 eX8_afterRepair_9 ?_
  refine gf_X8_112 eX8_afterRepair_12 ?_
  refine c_X8_231 eX8_afterRepair_15 (ct_setCopy (z := 12) (y := 1) (by omega) (by omega) (by omega) (fun M1 hF1 q7 q8 q9 q10 q6 => ?_))
  have t60 := q6 0 (by decide) (by decide)
  have t61 := q6 1 (by decide) (by decide)
  have t62 := q6 2 (by decide) (by decide)
  have t63 := q6 3 (by decide) (by decide)
  have hsm1 : SM M1 12 := by
    unfold SM
    rw [q7, q8, q9, q10, t60, t61, t62, t63]
    exact hsm
  have hT1 : Fr trP M M1 := hF1.mono (fun k9 j9 h9 => Or.inl h9)
  refine wp_aload_n eX8_afterRepair_18 rfl ?_
  refine gf_X8_62 eX8_afterRepair_19 ?_
  refine wp_aload_n eX8_afterRepair_22 rfl ?_
  refine gf_X8_58 eX8_afterRepair_23 ?_
  refine c_X8_115 eX8_afterRepair_26 (ct_build (j := 1) (z := 12) (by omega) (by omega) hsm1.1 rfl rfl rfl rfl rfl rfl (fun M2 hF2 hB2 => ?_))
  have r6 : M2 6 12 = M1 6 12 := hF2 6 12 (by unfold bpP; omega)
  have r7 : M2 7 12 = M1 7 12 := hF2 7 12 (by unfold bpP; omega)
  have r8 : M2 8 12 = M1 8 12 := hF2 8 12 (by unfold bpP; omega)
  have r9 : M2 9 12 = M1 9 12 := hF2 9 12 (by unfold bpP; omega)
  have r10 : M2 10 12 = M1 10 12 := hF2 10 12 (by unfold bpP; omega)
  have hsm2 : SM M2 12 := by
    unfold SM
    rw [r6, r7, r8, r9, r10]
    exact hsm1
  have hbs2 : BS M2 1 12 := by
    unfold BS
    rw [r6, r7, r9]
    exact hB2
  have hT2 : Fr trP M M2 := Fr.tr hT1 (hF2.mono (fun k9 j9 h9 => Or.inr h9))
  have hm2 : mdR M2 12 = mdR M 1 := by
    unfold mdR
    rw [r6, r7, r9, r10, q7, q9, q10, t60, t61, t62, t63]
  refine wp_aload_n eX8_afterRepair_29 rfl ?_
  refine gf_X8_58 eX8_afterRepair_30 ?_
  refine wp_aload_n eX8_afterRepair_33 rfl ?_
  refine gf_X8_62 eX8_afterRepair_34 ?_
  refine c_X8_173 eX8_afterRepair_37 (ct_mend (z := 12) (j := 1) (by omega) (by omega) hsm2 hbs2 (fun M3 hF3 u9 hsv3 hb3 => ?_))
  have s10 : M3 10 12 = M 10 1 := by rw [hF3 10 12 (by unfold mdP bpP; omega), r10, q10]
  have s6 : M3 6 12 = M2 6 12 := hF3 6 12 (by unfold mdP bpP; omega)
  have hT3 : Fr trP M M3 := Fr.tr hT2 (hF3.mono (fun k9 j9 h9 => h9.elim (fun q => Or.inl ⟨by omega, q.2⟩) Or.inr))
  have hv9 := sp_V_of hsv3 hb3 s10
  rw [hm2] at hv9 hsv3 hb3
  rw [r6, r7, q7, t60, t61, t62, t63] at hv9 hsv3 hb3
  have hpv3 := BR.pv hsv3 hb3
  refine wp_pop eX8_afterRepair_40 ?_
  refine wp_aload_n eX8_afterRepair_41 rfl ?_
  refine gf_X8_62 eX8_afterRepair_42 ?_
  refine wp_aload_n eX8_afterRepair_45 rfl ?_
  refine gf_X8_58 eX8_afterRepair_46 ?_
  refine c_X8_202 eX8_afterRepair_49 (ct_violators (j := 1) (z := 12) (ni := M 6 1 3) (by omega) hpv3.1 (by omega) (by rw [s6, r6, t63]) (fun i a b => by rw [s10]; exact (hsm.2 i a b).2) ?_)
  rw [hv9]
  refine wp_ireturn eX8_afterRepair_52 ?_
  exact k3 hL1 M3 hT3
