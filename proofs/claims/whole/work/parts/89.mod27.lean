def PF (M M' : bc_M) : Prop := Fr mqP M M' ∧ ∀ f, f < 24 → M' 33 0 f = M 33 0 f
theorem QM.pf {M M1 M2 : bc_M} (h : QM M M1) (h2 : PF M1 M2) : QM M M2 := ⟨Fr.tr h.1 h2.1, fun f a b => (h2.2 f a).trans (h.2.1 f a b), (h2.2 4 (by decide)).trans h.2.2⟩
set_option maxHeartbeats 1000000 in
theorem ct_findPlan {G : bc_G} {M : bc_M} {post : bc_R → bc_M → Prop} {dk fr pop bnd : Int → Int} {nd ni sg ln c n cap pol : Int} (hc : 0 ≤ c ∧ c < 4) {s : Int} (hsr : 0 ≤ s ∧ s < 65536) (hcn : 1 ≤ bs_cnt s 16 ∧ bs_cnt s 16 ≤ 5) (hn : 0 ≤ n ∧ n ≤ 4900) (hs : MS M dk fr pop bnd nd ni sg ln) (hcap : M 36 0 c = cap ∧ 0 ≤ cap ∧ cap ≤ 4) (hpol : M 37 0 c = pol ∧ 0 ≤ pol ∧ pol ≤ 2) (hq : QI (mc M c) ni n) (k : ∀ M' : bc_M, PF M M' → M' 33 0 40 = (ptR (qG cap pol ni pop dk fr (sW dk fr nd ni sg ln) (sL dk fr nd ni sg ln)) ni (bs_cnt s 16).toNat s 0 (mc M c) (M 49 0, (false, M 33 0 40, M 50 0))).2.2.1 → M' 50 0 = (ptR (qG cap pol ni pop dk fr (sW dk fr nd ni sg ln) (sL dk fr nd ni sg ln)) ni (bs_cnt s 16).toNat s 0 (mc M c) (M 49 0, (false, M 33 0 40, M 50 0))).2.2.2 → post (.inr none) M') : bc_Call G yX9_findPlan cX9_findPlan 3 none 12 0 [vR G 33 0, vI c, vI s] M post := by
  have hni := hs.1.2.1
  refine bc_enter (L := [some (vR G 33 0), some (vI c), some (vI s)]) (by decide) rfl rfl ?_
  refine wp_aload_n eX9_findPlan_0 rfl ?_
  refine c_X9_242 eX9_findPlan_1 (ct_layP hs (fun M1 hLY hML => ?_))
  refine wp_aload_n eX9_findPlan_4 rfl ?_
  refine wp_iconst eX9_findPlan_5 ?_
  refine pf_X9_371 eX9_findPlan_6 (by decide) ?_
  refine wp_aload_n eX9_findPlan_9 rfl ?_
  refine wp_iload_n eX9_findPlan_10 rfl ?_
  refine wp_iload_n eX9_findPlan_11 rfl ?_
  refine wp_iconst eX9_findPlan_12 ?_
  have hs1 : MS (bc_up M1 33 0 41 0) dk fr pop bnd nd ni sg ln := up_ms (hLY.ms hs) (by decide) (by decide)
  have hML1 : ML (bc_up M1 33 0 41 0) dk fr nd ni sg ln := up_ml hML (by decide) (by decide)
  have eo : ∀ k, k = 36 ∨ k = 37 ∨ k = 49 ∨ k = 50 ∨ k = 34 → (bc_up M1 33 0 41 0) k 0 = M k 0 := fun k hk => by rw [up_kne (by omega), hLY.1 k 0 (by unfold lyP; omega)]
  have emc : mc (bc_up M1 33 0 41 0) c = mc M c := by funext f; unfold mc; rw [eo 34 (by decide)]
  have hV1 : TV (bc_up M1 33 0 41 0) (M 49 0, (false, M 33 0 40, M 50 0)) := by
    refine ⟨⟨Eq.trans (b := 0) (by rw [up_v, if_pos rfl]) rfl, ?_, eo 50 (by decide)⟩, eo 49 (by decide), fun z => absurd (show false = true from z) (by decide)⟩
    rw [up_v, if_neg (by decide), hLY.2 40 (by decide) (by decide)]
  rcases (show bs_cnt s 16 = 1 ∨ bs_cnt s 16 = 2 ∨ bs_cnt s 16 = 3 ∨ bs_cnt s 16 = 4 ∨ bs_cnt s 16 = 5 by omega) with hcc | hcc | hcc | hcc | hcc
  · skip
    refine c_X9_377 eX9_findPlan_13 (ct_tr1 (n := n) (s := (M 49 0, (false, M 33 0 40, M 50 0))) (cap := cap) (pol := pol) hc hsr hcc (by omega) (by omega) hs1 hML1 ⟨by rw [eo 36 (by decide)]; exact hcap.1, hcap.2⟩ ⟨by rw [eo 37 (by decide)]; exact hpol.1, hpol.2⟩ (by rw [emc]; exact hq) hV1 (fun M2 hT hV => ?_))
    rw [emc] at hV
    refine wp_return eX9_findPlan_16 ?_
    refine k M2 ⟨Fr.tr (Fr.tr (hLY.1.mono (fun k9 j9 q => by unfold lyP at q; unfold mqP; omega)) (Fr.up (k := 33) (j := 0) ⟨Or.inl rfl, rfl⟩)) (hT.1.mono (fun k9 j9 q => by unfold mqP; omega)), fun f hf => ?_⟩ ?_ ?_
    · rw [hT.2.1 f (by omega) (by omega) (by omega), up_v, if_neg (by omega), hLY.2 f (by omega) (by omega)]
    · rw [hV.1.2.1, show (bs_cnt s 16).toNat = 1 by omega]
    · rw [hV.1.2.2, show (bs_cnt s 16).toNat = 1 by omega]
  · skip
    refine c_X9_377 eX9_findPlan_13 (ct_tr2 (n := n) (s := (M 49 0, (false, M 33 0 40, M 50 0))) (cap := cap) (pol := pol) hc hsr hcc (by omega) (by omega) hs1 hML1 ⟨by rw [eo 36 (by decide)]; exact hcap.1, hcap.2⟩ ⟨by rw [eo 37 (by decide)]; exact hpol.1, hpol.2⟩ (by rw [emc]; exact hq) hV1 (fun M2 hT hV => ?_))
    rw [emc] at hV
    refine wp_return eX9_findPlan_16 ?_
    refine k M2 ⟨Fr.tr (Fr.tr (hLY.1.mono (fun k9 j9 q => by unfold lyP at q; unfold mqP; omega)) (Fr.up (k := 33) (j := 0) ⟨Or.inl rfl, rfl⟩)) (hT.1.mono (fun k9 j9 q => by unfold mqP; omega)), fun f hf => ?_⟩ ?_ ?_
    · rw [hT.2.1 f (by omega) (by omega) (by omega), up_v, if_neg (by omega), hLY.2 f (by omega) (by omega)]
    · rw [hV.1.2.1, show (bs_cnt s 16).toNat = 2 by omega]
    · rw [hV.1.2.2, show (bs_cnt s 16).toNat = 2 by omega]
  · skip
    refine c_X9_377 eX9_findPlan_13 (ct_tr3 (n := n) (s := (M 49 0, (false, M 33 0 40, M 50 0))) (cap := cap) (pol := pol) hc hsr hcc (by omega) (by omega) hs1 hML1 ⟨by rw [eo 36 (by decide)]; exact hcap.1, hcap.2⟩ ⟨by rw [eo 37 (by decide)]; exact hpol.1, hpol.2⟩ (by rw [emc]; exact hq) hV1 (fun M2 hT hV => ?_))
    rw [emc] at hV
    refine wp_return eX9_findPlan_16 ?_
    refine k M2 ⟨Fr.tr (Fr.tr (hLY.1.mono (fun k9 j9 q => by unfold lyP at q; unfold mqP; omega)) (Fr.up (k := 33) (j := 0) ⟨Or.inl rfl, rfl⟩)) (hT.1.mono (fun k9 j9 q => by unfold mqP; omega)), fun f hf => ?_⟩ ?_ ?_
    · rw [hT.2.1 f (by omega) (by omega) (by omega), up_v, if_neg (by omega), hLY.2 f (by omega) (by omega)]
    · rw [hV.1.2.1, show (bs_cnt s 16).toNat = 3 by omega]
    · rw [hV.1.2.2, show (bs_cnt s 16).toNat = 3 by omega]
  · skip
    refine c_X9_377 eX9_findPlan_13 (ct_tr4 (n := n) (s := (M 49 0, (false, M 33 0 40, M 50 0))) (cap := cap) (pol := pol) hc hsr hcc (by omega) (by omega) hs1 hML1 ⟨by rw [eo 36 (by decide)]; exact hcap.1, hcap.2⟩ ⟨by rw [eo 37 (by decide)]; exact hpol.1, hpol.2⟩ (by rw [emc]; exact hq) hV1 (fun M2 hT hV => ?_))
    rw [emc] at hV
    refine wp_return eX9_findPlan_16 ?_
    refine k M2 ⟨Fr.tr (Fr.tr (hLY.1.mono (fun k9 j9 q => by unfold lyP at q; unfold mqP; omega)) (Fr.up (k := 33) (j := 0) ⟨Or.inl rfl, rfl⟩)) (hT.1.mono (fun k9 j9 q => by unfold mqP; omega)), fun f hf => ?_⟩ ?_ ?_
    · rw [hT.2.1 f (by omega) (by omega) (by omega), up_v, if_neg (by omega), hLY.2 f (by omega) (by omega)]
    · rw [hV.1.2.1, show (bs_cnt s 16).toNat = 4 by omega]
    · rw [hV.1.2.2, show (bs_cnt s 16).toNat = 4 by omega]
  · skip
    refine c_X9_377 eX9_findPlan_13 (ct_tr5 (n := n) (s := (M 49 0, (false, M 33 0 40, M 50 0))) (cap := cap) (pol := pol) hc hsr hcc (by omega) (by omega) hs1 hML1 ⟨by rw [eo 36 (by decide)]; exact hcap.1, hcap.2⟩ ⟨by rw [eo 37 (by decide)]; exact hpol.1, hpol.2⟩ (by rw [emc]; exact hq) hV1 (fun M2 hT hV => ?_))
    rw [emc] at hV
    refine wp_return eX9_findPlan_16 ?_
    refine k M2 ⟨Fr.tr (Fr.tr (hLY.1.mono (fun k9 j9 q => by unfold lyP at q; unfold mqP; omega)) (Fr.up (k := 33) (j := 0) ⟨Or.inl rfl, rfl⟩)) (hT.1.mono (fun k9 j9 q => by unfold mqP; omega)), fun f hf => ?_⟩ ?_ ?_
    · rw [hT.2.1 f (by omega) (by omega) (by omega), up_v, if_neg (by omega), hLY.2 f (by omega) (by omega)]
    · rw [hV.1.2.1, show (bs_cnt s 16).toNat = 5 by omega]
    · rw [hV.1.2.2, show (bs_cnt s 16).toNat = 5 by omega]
theorem ct_isPlan {G : bc_G} {M : bc_M} {post : bc_R → bc_M → Prop} {c s : Int} (hit : 0 ≤ M 33 0 6 ∧ M 33 0 6 ≤ 16) (hcl : 0 ≤ M 33 0 7 ∧ M 33 0 7 ≤ 4) (h_c : -2147483648 ≤ c ∧ c < 2147483648 := by omega) (h_s : -2147483648 ≤ s ∧ s < 2147483648 := by omega) (k : post (.inr (some (vI (if (c < 0 ∨ M 33 0 7 ≤ c ∨ s < 1 ∨ p2 (M 33 0 6) ≤ s ∨ 5 < bs_cnt s 16) then 0 else 1)))) M) : bc_Call G yX9_isPlan cX9_isPlan 3 (some .boolean) 3 0 [vR G 33 0, vI c, vI s] M post := by
  refine bc_enter (L := [some (vR G 33 0), some (vI c), some (vI s)]) (by decide) rfl rfl ?_
  refine wp_aload_n eX9_isPlan_0 rfl ?_
  refine wp_iload_n eX9_isPlan_1 rfl ?_
  refine c_X9_270 eX9_isPlan_2 (ct_mIsClient ?_)
  refine wp_if_eq eX9_isPlan_5 (fun c5 => ?_) (fun c5 => ?_) (by split <;> decide)
  · have g5 : ¬ (0 ≤ c ∧ c ≤ M 33 0 7 - 1) := by
      intro h9
      rw [if_pos h9] at c5
      exact absurd c5 (by decide)
    have hk9 : (if (c < 0 ∨ M 33 0 7 ≤ c ∨ s < 1 ∨ p2 (M 33 0 6) ≤ s ∨ 5 < bs_cnt s 16) then (0 : Int) else 1) = 0 := if_pos (by omega)
    rw [hk9] at k
    refine wp_iconst eX9_isPlan_28 ?_
    refine wp_zreturn eX9_isPlan_29 (by decide) ?_
    exact k
  · have g5 : 0 ≤ c ∧ c ≤ M 33 0 7 - 1 := by
      apply Decidable.byContradiction
      intro h9
      rw [if_neg h9] at c5
      exact absurd rfl c5
    refine wp_aload_n eX9_isPlan_8 rfl ?_
    refine wp_iload_n eX9_isPlan_9 rfl ?_
    refine c_X9_357 eX9_isPlan_10 (ct_isSet ?_)
    refine wp_if_eq eX9_isPlan_13 (fun c13 => ?_) (fun c13 => ?_) (by split <;> decide)
    · have g13 : ¬ (1 ≤ s ∧ s ≤ p2 (M 33 0 6) - 1) := by
        intro h9
        rw [if_pos h9] at c13
        exact absurd c13 (by decide)
      have hk9 : (if (c < 0 ∨ M 33 0 7 ≤ c ∨ s < 1 ∨ p2 (M 33 0 6) ≤ s ∨ 5 < bs_cnt s 16) then (0 : Int) else 1) = 0 := if_pos (by omega)
      rw [hk9] at k
      refine wp_iconst eX9_isPlan_28 ?_
      refine wp_zreturn eX9_isPlan_29 (by decide) ?_
      exact k
    · have g13 : 1 ≤ s ∧ s ≤ p2 (M 33 0 6) - 1 := by
        apply Decidable.byContradiction
        intro h9
        rw [if_neg h9] at c13
        exact absurd rfl c13
      refine wp_iload_n eX9_isPlan_16 rfl ?_
      refine c_X9_215 eX9_isPlan_17 (ct_mMany (by have := p2_rng (n := M 33 0 6) (by omega); omega) ?_)
      have hcr := bs_cnt_rng s 16
      refine wp_iconst eX9_isPlan_20 ?_
      refine wp_icmp_gt eX9_isPlan_21 (fun c21 => ?_) (fun c21 => ?_)
      · have hk9 : (if (c < 0 ∨ M 33 0 7 ≤ c ∨ s < 1 ∨ p2 (M 33 0 6) ≤ s ∨ 5 < bs_cnt s 16) then (0 : Int) else 1) = 0 := if_pos (by omega)
        rw [hk9] at k
        refine wp_iconst eX9_isPlan_28 ?_
        refine wp_zreturn eX9_isPlan_29 (by decide) ?_
        exact k
      · have hk9 : (if (c < 0 ∨ M 33 0 7 ≤ c ∨ s < 1 ∨ p2 (M 33 0 6) ≤ s ∨ 5 < bs_cnt s 16) then (0 : Int) else 1) = 1 := if_neg (by omega)
        rw [hk9] at k
        refine wp_iconst eX9_isPlan_24 ?_
        refine wp_goto eX9_isPlan_25 ?_
        refine wp_zreturn eX9_isPlan_29 (by decide) ?_
        exact k
theorem ct_mPlanTime {G : bc_G} {M : bc_M} {post : bc_R → bc_M → Prop} {c s : Int} {dk fr pop bnd : Int → Int} {nd ni sg ln : Int} (hI : M 33 0 3 = 1 → MS M dk fr pop bnd nd ni sg ln) (hl : M 33 0 3 = 0 ∨ M 33 0 3 = 1) (k1 : M 33 0 3 = 0 → post (.inr (some (vI 0))) (bc_up M 33 0 4 1)) (k2 : M 33 0 3 = 1 → (c < 0 ∨ M 33 0 7 ≤ c ∨ s < 1 ∨ p2 (M 33 0 6) ≤ s ∨ 5 < bs_cnt s 16) → post (.inr (some (vI 0))) (bc_up M 33 0 4 2)) (k3 : M 33 0 3 = 1 → ¬ (c < 0 ∨ M 33 0 7 ≤ c ∨ s < 1 ∨ p2 (M 33 0 6) ≤ s ∨ 5 < bs_cnt s 16) → ∀ M' : bc_M, QM M M' → post (.inr (some (vI ((ptR (qG (M 36 0 c) (M 37 0 c) ni pop dk fr (sW dk fr nd ni sg ln) (sL dk fr nd ni sg ln)) ni (bs_cnt s 16).toNat s 0 (mc M c) (bc_up M 33 0 4 0 49 0, (false, bc_up M 33 0 4 0 33 0 40, bc_up M 33 0 4 0 50 0))).2.2.1)))) M') (ha : 0 ≤ M 33 0 2 ∧ M 33 0 2 ≤ 10) (hit : 0 ≤ M 33 0 6 ∧ M 33 0 6 ≤ 16) (hdi : 0 ≤ M 33 0 5 ∧ M 33 0 5 ≤ 4) (hcl : 0 ≤ M 33 0 7 ∧ M 33 0 7 ≤ 4) {n : Int} (hn : 0 ≤ n ∧ n ≤ 4900) (hcn : ∀ c, 0 ≤ c → c < M 33 0 7 → (0 ≤ M 36 0 c ∧ M 36 0 c ≤ 4) ∧ (0 ≤ M 37 0 c ∧ M 37 0 c ≤ 2) ∧ QI (mc M c) ni n) (h_c : -2147483648 ≤ c ∧ c < 2147483648 := by omega) (h_s : -2147483648 ≤ s ∧ s < 2147483648 := by omega) : bc_Call G yX9_planTime cX9_planTime 3 (some .int) 13 0 [vR G 33 0, vI c, vI s] M post := by
  refine bc_enter (L := [some (vR G 33 0), some (vI c), some (vI s)]) (by decide) rfl rfl ?_
  refine wp_aload_n eX9_planTime_0 rfl ?_
  refine wp_aload_n eX9_planTime_1 rfl ?_
  refine wp_iload_n eX9_planTime_2 rfl ?_
  refine wp_iload_n eX9_planTime_3 rfl ?_
  refine c_X9_380 eX9_planTime_4 (ct_isPlan hit hcl (k := ?_))
  by_cases hb9 : (c < 0 ∨ M 33 0 7 ≤ c ∨ s < 1 ∨ p2 (M 33 0 6) ≤ s ∨ 5 < bs_cnt s 16)
  · rw [if_pos hb9]
    refine c_X9_201 eX9_planTime_7 (ct_mIsWrong ?_)
    rcases hl with hl0 | hl1
    · rw [show mo_thr M 0 = 1 by unfold mo_thr; rw [if_pos hl0]]
      refine wp_if_eq eX9_planTime_10 (fun c10 => ?_) (fun c10 => ?_)
      · exact absurd c10 (by decide)
      · refine wp_iconst eX9_planTime_13 ?_
        refine wp_ireturn eX9_planTime_14 ?_
        exact k1 hl0
    · rw [show mo_thr M 0 = 2 by unfold mo_thr; rw [if_neg (by omega), if_pos rfl]]
      refine wp_if_eq eX9_planTime_10 (fun c10 => ?_) (fun c10 => ?_)
      · exact absurd c10 (by decide)
      · refine wp_iconst eX9_planTime_13 ?_
        refine wp_ireturn eX9_planTime_14 ?_
        exact k2 hl1 (by omega)
  · rw [if_neg hb9]
    refine c_X9_201 eX9_planTime_7 (ct_mIsWrong ?_)
    rcases hl with hl0 | hl1
    · rw [show mo_thr M 1 = 1 by unfold mo_thr; rw [if_pos hl0]]
      refine wp_if_eq eX9_planTime_10 (fun c10 => ?_) (fun c10 => ?_)
      · exact absurd c10 (by decide)
      · refine wp_iconst eX9_planTime_13 ?_
        refine wp_ireturn eX9_planTime_14 ?_
        exact k1 hl0
    · rw [show mo_thr M 1 = 0 by unfold mo_thr; rw [if_neg (by omega), if_neg (by decide)]]
      have hs0 := up_ms (f := 4) (v := 0) (hI hl1) (by decide) (by decide)
      have hs9 := hI hl1
      have hni := hs0.1.2.1
      have hnd := hs0.1.1
      have e6 := hs9.2.1.2
      have e5 := hs9.2.1.1
      refine wp_if_eq eX9_planTime_10 (fun c10 => ?_) (fun c10 => ?_)
      · have emc : mc (bc_up M 33 0 4 0) c = mc M c := by funext f; unfold mc; rw [up_kne (by decide)]
        have hcc := hcn c (by omega) (by omega)
        have hp2 := p2_rng (n := M 33 0 6) (by omega)
        have hcp := bs_cnt_pos (s := s) (by omega) (by omega)
        refine wp_aload_n eX9_planTime_15 rfl ?_
        refine wp_iload_n eX9_planTime_16 rfl ?_
        refine wp_iload_n eX9_planTime_17 rfl ?_
        refine c_X9_383 eX9_planTime_18 (ct_findPlan (cap := M 36 0 c) (pol := M 37 0 c) (n := n) (by omega) (by omega) (by omega) hn hs0 ⟨by rw [up_kne (by decide)], hcc.1⟩ ⟨by rw [up_kne (by decide)], hcc.2.1⟩ (by rw [emc]; exact hcc.2.2) (fun M1 hF e40 e50 => ?_))
        rw [emc] at e40 e50
        refine wp_aload_n eX9_planTime_21 rfl ?_
        refine gf_X9_374 eX9_planTime_22 ?_
        rw [e40]
        refine wp_ireturn eX9_planTime_25 ?_
        exact k3 hl1 hb9 M1 (QM.b0.pf hF)
      · exact absurd (by decide) c10
theorem ct_mPlanItem {G : bc_G} {M : bc_M} {post : bc_R → bc_M → Prop} {c s x : Int} {dk fr pop bnd : Int → Int} {nd ni sg ln : Int} (hI : M 33 0 3 = 1 → MS M dk fr pop bnd nd ni sg ln) (hl : M 33 0 3 = 0 ∨ M 33 0 3 = 1) (k1 : M 33 0 3 = 0 → post (.inr (some (vI 0))) (bc_up M 33 0 4 1)) (k2 : M 33 0 3 = 1 → (c < 0 ∨ M 33 0 7 ≤ c ∨ s < 1 ∨ p2 (M 33 0 6) ≤ s ∨ 5 < bs_cnt s 16 ∨ x < 0) → post (.inr (some (vI 0))) (bc_up M 33 0 4 2)) (k3 : M 33 0 3 = 1 → ¬ (c < 0 ∨ M 33 0 7 ≤ c ∨ s < 1 ∨ p2 (M 33 0 6) ≤ s ∨ 5 < bs_cnt s 16 ∨ x < 0) → ∀ M' : bc_M, QM M M' → post (.inr (some (vI (if x < bs_cnt s 16 then (ptR (qG (M 36 0 c) (M 37 0 c) ni pop dk fr (sW dk fr nd ni sg ln) (sL dk fr nd ni sg ln)) ni (bs_cnt s 16).toNat s 0 (mc M c) (bc_up M 33 0 4 0 49 0, (false, bc_up M 33 0 4 0 33 0 40, bc_up M 33 0 4 0 50 0))).2.2.2 x else -2)))) M') (ha : 0 ≤ M 33 0 2 ∧ M 33 0 2 ≤ 10) (hit : 0 ≤ M 33 0 6 ∧ M 33 0 6 ≤ 16) (hdi : 0 ≤ M 33 0 5 ∧ M 33 0 5 ≤ 4) (hcl : 0 ≤ M 33 0 7 ∧ M 33 0 7 ≤ 4) {n : Int} (hn : 0 ≤ n ∧ n ≤ 4900) (hcn : ∀ c, 0 ≤ c → c < M 33 0 7 → (0 ≤ M 36 0 c ∧ M 36 0 c ≤ 4) ∧ (0 ≤ M 37 0 c ∧ M 37 0 c ≤ 2) ∧ QI (mc M c) ni n) (h_c : -2147483648 ≤ c ∧ c < 2147483648 := by omega) (h_s : -2147483648 ≤ s ∧ s < 2147483648 := by omega) (h_x : -2147483648 ≤ x ∧ x < 2147483648 := by omega) : bc_Call G yX9_planItem cX9_planItem 4 (some .int) 13 0 [vR G 33 0, vI c, vI s, vI x] M post := by
  refine bc_enter (L := [some (vR G 33 0), some (vI c), some (vI s), some (vI x)]) (by decide) rfl rfl ?_
  refine wp_aload_n eX9_planItem_0 rfl ?_
  refine wp_aload_n eX9_planItem_1 rfl ?_
  refine wp_iload_n eX9_planItem_2 rfl ?_
  refine wp_iload_n eX9_planItem_3 rfl ?_
  refine c_X9_380 eX9_planItem_4 (ct_isPlan hit hcl (k := ?_))
  refine wp_if_eq eX9_planItem_7 (fun c7 => ?_) (fun c7 => ?_) (by split <;> decide)
  · have hb9 : (c < 0 ∨ M 33 0 7 ≤ c ∨ s < 1 ∨ p2 (M 33 0 6) ≤ s ∨ 5 < bs_cnt s 16) := by
      apply Decidable.byContradiction
      intro h9
      rw [if_neg h9] at c7
      exact absurd c7 (by decide)
    refine wp_iconst eX9_planItem_18 ?_
    refine c_X9_201 eX9_planItem_19 (ct_mIsWrong ?_)
    rcases hl with hl0 | hl1
    · rw [show mo_thr M 0 = 1 by unfold mo_thr; rw [if_pos hl0]]
      refine wp_if_eq eX9_planItem_22 (fun c22 => ?_) (fun c22 => ?_)
      · exact absurd c22 (by decide)
      · refine wp_iconst eX9_planItem_25 ?_
        refine wp_ireturn eX9_planItem_26 ?_
        exact k1 hl0
    · rw [show mo_thr M 0 = 2 by unfold mo_thr; rw [if_neg (by omega), if_pos rfl]]
      refine wp_if_eq eX9_planItem_22 (fun c22 => ?_) (fun c22 => ?_)
      · exact absurd c22 (by decide)
      · refine wp_iconst eX9_planItem_25 ?_
        refine wp_ireturn eX9_planItem_26 ?_
        exact k2 hl1 (by omega)
  · have hb9 : ¬ (c < 0 ∨ M 33 0 7 ≤ c ∨ s < 1 ∨ p2 (M 33 0 6) ≤ s ∨ 5 < bs_cnt s 16) := by
      intro h9
      rw [if_pos h9] at c7
      exact absurd rfl c7
    refine wp_iload_n eX9_planItem_10 rfl ?_
    refine wp_if_lt eX9_planItem_11 (fun c11 => ?_) (fun c11 => ?_)
    · refine wp_iconst eX9_planItem_18 ?_
      refine c_X9_201 eX9_planItem_19 (ct_mIsWrong ?_)
      rcases hl with hl0 | hl1
      · rw [show mo_thr M 0 = 1 by unfold mo_thr; rw [if_pos hl0]]
        refine wp_if_eq eX9_planItem_22 (fun c22 => ?_) (fun c22 => ?_)
        · exact absurd c22 (by decide)
        · refine wp_iconst eX9_planItem_25 ?_
          refine wp_ireturn eX9_planItem_26 ?_
          exact k1 hl0
      · rw [show mo_thr M 0 = 2 by unfold mo_thr; rw [if_neg (by omega), if_pos rfl]]
        refine wp_if_eq eX9_planItem_22 (fun c22 => ?_) (fun c22 => ?_)
        · exact absurd c22 (by decide)
        · refine wp_iconst eX9_planItem_25 ?_
          refine wp_ireturn eX9_planItem_26 ?_
          exact k2 hl1 (by omega)
    · refine wp_iconst eX9_planItem_14 ?_
      refine wp_goto eX9_planItem_15 ?_
      refine c_X9_201 eX9_planItem_19 (ct_mIsWrong ?_)
      rcases hl with hl0 | hl1
      · rw [show mo_thr M 1 = 1 by unfold mo_thr; rw [if_pos hl0]]
        refine wp_if_eq eX9_planItem_22 (fun c22 => ?_) (fun c22 => ?_)
        · exact absurd c22 (by decide)
        · refine wp_iconst eX9_planItem_25 ?_
          refine wp_ireturn eX9_planItem_26 ?_
          exact k1 hl0
      · rw [show mo_thr M 1 = 0 by unfold mo_thr; rw [if_neg (by omega), if_neg (by decide)]]
        have hs0 := up_ms (f := 4) (v := 0) (hI hl1) (by decide) (by decide)
        have hs9 := hI hl1
        have hni := hs0.1.2.1
        have hnd := hs0.1.1
        have e6 := hs9.2.1.2
        have e5 := hs9.2.1.1
        refine wp_if_eq eX9_planItem_22 (fun c22 => ?_) (fun c22 => ?_)
        · have emc : mc (bc_up M 33 0 4 0) c = mc M c := by funext f; unfold mc; rw [up_kne (by decide)]
          have hcc := hcn c (by omega) (by omega)
          have hp2 := p2_rng (n := M 33 0 6) (by omega)
          have hcp := bs_cnt_pos (s := s) (by omega) (by omega)
          refine wp_aload_n eX9_planItem_27 rfl ?_
          refine wp_iload_n eX9_planItem_28 rfl ?_
          refine wp_iload_n eX9_planItem_29 rfl ?_
          refine c_X9_383 eX9_planItem_30 (ct_findPlan (cap := M 36 0 c) (pol := M 37 0 c) (n := n) (by omega) (by omega) (by omega) hn hs0 ⟨by rw [up_kne (by decide)], hcc.1⟩ ⟨by rw [up_kne (by decide)], hcc.2.1⟩ (by rw [emc]; exact hcc.2.2) (fun M1 hF e40 e50 => ?_))
          rw [emc] at e40 e50
          refine wp_iload_n eX9_planItem_33 rfl ?_
          refine wp_iload_n eX9_planItem_34 rfl ?_
          refine c_X9_215 eX9_planItem_35 (ct_mMany (by omega) ?_)
          have hcr := bs_cnt_rng s 16
          refine wp_icmp_ge eX9_planItem_38 (fun c38 => ?_) (fun c38 => ?_)
          · rw [if_neg (by omega)] at k3
            refine wp_bipush eX9_planItem_50 ?_
            refine wp_ireturn eX9_planItem_52 ?_
            exact k3 hl1 (by omega) M1 (QM.b0.pf hF)
          · rw [if_pos (by omega)] at k3
            refine wp_aload_n eX9_planItem_41 rfl ?_
            refine gf_X9_62 eX9_planItem_42 ?_
            refine wp_iload_n eX9_planItem_45 rfl ?_
            refine al_50 eX9_planItem_46 ?_
            rw [e50]
            refine wp_goto eX9_planItem_47 ?_
            refine wp_ireturn eX9_planItem_52 ?_
            exact k3 hl1 (by omega) M1 (QM.b0.pf hF)
        · exact absurd (by decide) c22
