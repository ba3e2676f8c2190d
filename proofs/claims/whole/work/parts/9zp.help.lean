/-! the law's helpers: what the class throws becomes a number -/
theorem hp_append {G : bc_G} {M : bc_M} {a0 a1 a2 a3 a4 : Int} {F : Int → bc_M → Prop} (h : bc_Call G yX8_append cX8_append 6 (some .int) 9 1 [vR G 1 0, vI a0, vI a1, vI a2, vI a3, vI a4] M (AFI csS F)) : bh_Call G yL_append cL_append 8 (some .int) [(0, 16, 19, 13)] 10 1 [vR G 1 0, vI a0, vI a1, vI a2, vI a3, vI a4, vR G 51 0] M (fun r M' => ∃ k, r = .inr (some (vI k)) ∧ (0 ≤ k ∧ k ≤ 3) ∧ F k M') := by
  refine bh_enter (L := [some (vR G 1 0), some (vI a0), some (vI a1), some (vI a2), some (vI a3), some (vI a4), some (vR G 51 0), none]) (by decide) rfl rfl ?_
  refine wg_aload eL_append_0 rfl ?_
  refine wg_iconst eL_append_2 ?_
  refine wg_aload_n eL_append_3 rfl ?_
  refine wg_iload_n eL_append_4 rfl ?_
  refine wg_iload_n eL_append_5 rfl ?_
  refine wg_iload_n eL_append_6 rfl ?_
  refine wg_iload eL_append_7 rfl ?_
  refine wg_iload eL_append_9 rfl ?_
  refine bg_callVH (k := 1) (j := 0) (ci := 8) (n := 5) (As := [vI a0, vI a1, vI a2, vI a3, vI a4]) (st := [vI 0, vR G 51 0]) eL_append_11 mw_681 mw_682 mw_683 mw_105 mw_684 ⟨rfl, by decide, by decide, by decide +kernel⟩ rfl rfl (by decide) rfl (by decide) ⟨by decide, by decide⟩ ⟨by decide, by decide⟩ rfl (bc_mono h (fun r M1 hr => ?_))
  cases r with
  | inl E =>
    obtain ⟨k, hk, hF⟩ := hr
    simp only [csS, List.mem_cons, Prod.mk.injEq, List.not_mem_nil, or_false] at hk
    obtain ⟨rfl, rfl⟩ := hk
    refine ⟨19, ⟨[], (0, 16, 19, 13), [], rfl, fun _ q => absurd q List.not_mem_nil, ⟨by decide, by decide, mw_680, by decide⟩, rfl⟩, fun q => ?_⟩
    refine wg_astore_x eL_append_19 rfl ?_
    refine wg_iconst eL_append_21 ?_
    exact wg_ireturn eL_append_22 ⟨_, rfl, by decide, hF⟩
  | inr w =>
    obtain ⟨x, rfl, hF⟩ := hr
    refine wg_i2l eL_append_14 ?_
    refine bg_last (k := 51) (n := 1) (j := 0) (i := 0) eL_append_15 (fun _ => rfl) (by decide) (by decide) (by decide) ?_
    refine wg_goto eL_append_16 ?_
    refine wg_iconst eL_append_23 ?_
    exact wg_ireturn eL_append_24 ⟨_, rfl, by decide, hF⟩
theorem hp_truncate {G : bc_G} {M : bc_M} {a0 : Int} {F : Int → bc_M → Prop} (h : bc_Call G yX8_truncate cX8_truncate 2 (some .int) 9 1 [vR G 1 0, vI a0] M (AFI csT F)) : bh_Call G yL_truncate cL_truncate 4 (some .int) [(0, 9, 12, 19)] 10 1 [vR G 1 0, vI a0, vR G 51 0] M (fun r M' => ∃ k, r = .inr (some (vI k)) ∧ (0 ≤ k ∧ k ≤ 3) ∧ F k M') := by
  refine bh_enter (L := [some (vR G 1 0), some (vI a0), some (vR G 51 0), none]) (by decide) rfl rfl ?_
  refine wg_aload_n eL_truncate_0 rfl ?_
  refine wg_iconst eL_truncate_1 ?_
  refine wg_aload_n eL_truncate_2 rfl ?_
  refine wg_iload_n eL_truncate_3 rfl ?_
  refine bg_callVH (k := 1) (j := 0) (ci := 8) (n := 1) (As := [vI a0]) (st := [vI 0, vR G 51 0]) eL_truncate_4 mw_760 mw_761 mw_762 mw_105 mw_763 ⟨rfl, by decide, by decide, by decide +kernel⟩ rfl rfl (by decide) rfl (by decide) ⟨by decide, by decide⟩ ⟨by decide, by decide⟩ rfl (bc_mono h (fun r M1 hr => ?_))
  cases r with
  | inl E =>
    obtain ⟨k, hk, hF⟩ := hr
    simp only [csT, List.mem_cons, Prod.mk.injEq, List.not_mem_nil, or_false] at hk
    obtain ⟨rfl, rfl⟩ := hk
    refine ⟨12, ⟨[], (0, 9, 12, 19), [], rfl, fun _ q => absurd q List.not_mem_nil, ⟨by decide, by decide, mw_759, by decide⟩, rfl⟩, fun q => ?_⟩
    refine wg_astore_nx eL_truncate_12 rfl ?_
    refine wg_iconst eL_truncate_13 ?_
    exact wg_ireturn eL_truncate_14 ⟨_, rfl, by decide, hF⟩
  | inr w =>
    obtain ⟨x, rfl, hF⟩ := hr
    refine wg_i2l eL_truncate_7 ?_
    refine bg_last (k := 51) (n := 1) (j := 0) (i := 0) eL_truncate_8 (fun _ => rfl) (by decide) (by decide) (by decide) ?_
    refine wg_goto eL_truncate_9 ?_
    refine wg_iconst eL_truncate_15 ?_
    exact wg_ireturn eL_truncate_16 ⟨_, rfl, by decide, hF⟩
theorem hp_request {G : bc_G} {M : bc_M} {a0 a1 : Int} {F : Int → bc_M → Prop} (h : bc_Call G yX8_request cX8_request 3 (some .int) 9 3 [vR G 1 0, vI a0, vI a1] M (AFI csA F)) : bh_Call G yL_request cL_request 5 (some .int) [(0, 10, 13, 13), (0, 10, 17, 19)] 10 3 [vR G 1 0, vI a0, vI a1, vR G 51 0] M (fun r M' => ∃ k, r = .inr (some (vI k)) ∧ (0 ≤ k ∧ k ≤ 3) ∧ F k M') := by
  refine bh_enter (L := [some (vR G 1 0), some (vI a0), some (vI a1), some (vR G 51 0), none]) (by decide) rfl rfl ?_
  refine wg_aload_n eL_request_0 rfl ?_
  refine wg_iconst eL_request_1 ?_
  refine wg_aload_n eL_request_2 rfl ?_
  refine wg_iload_n eL_request_3 rfl ?_
  refine wg_iload_n eL_request_4 rfl ?_
  refine bg_callVH (k := 1) (j := 0) (ci := 8) (n := 2) (As := [vI a0, vI a1]) (st := [vI 0, vR G 51 0]) eL_request_5 mw_786 mw_787 mw_788 mw_105 mw_789 ⟨rfl, by decide, by decide, by decide +kernel⟩ rfl rfl (by decide) rfl (by decide) ⟨by decide, by decide⟩ ⟨by decide, by decide⟩ rfl (bc_mono h (fun r M1 hr => ?_))
  cases r with
  | inl E =>
    obtain ⟨k, hk, hF⟩ := hr
    simp only [csA, List.mem_cons, Prod.mk.injEq, List.not_mem_nil, or_false] at hk
    rcases hk with ⟨rfl, rfl⟩ | ⟨rfl, rfl⟩
    · refine ⟨13, ⟨[], (0, 10, 13, 13), [(0, 10, 17, 19)], rfl, fun _ q => absurd q List.not_mem_nil, ⟨by decide, by decide, mw_680, by decide⟩, rfl⟩, fun q => ?_⟩
      refine wg_astore_x eL_request_13 rfl ?_
      refine wg_iconst eL_request_15 ?_
      exact wg_ireturn eL_request_16 ⟨_, rfl, by decide, hF⟩
    · refine ⟨17, ⟨[(0, 10, 13, 13)], (0, 10, 17, 19), [], rfl, List.forall_mem_cons.mpr ⟨⟨by decide, _, mw_680, by decide⟩, fun _ q => absurd q List.not_mem_nil⟩, ⟨by decide, by decide, mw_759, by decide⟩, rfl⟩, fun q => ?_⟩
      refine wg_astore_x eL_request_17 rfl ?_
      refine wg_iconst eL_request_19 ?_
      exact wg_ireturn eL_request_20 ⟨_, rfl, by decide, hF⟩
  | inr w =>
    obtain ⟨x, rfl, hF⟩ := hr
    refine wg_i2l eL_request_8 ?_
    refine bg_last (k := 51) (n := 1) (j := 0) (i := 0) eL_request_9 (fun _ => rfl) (by decide) (by decide) (by decide) ?_
    refine wg_goto eL_request_10 ?_
    refine wg_iconst eL_request_21 ?_
    exact wg_ireturn eL_request_22 ⟨_, rfl, by decide, hF⟩
theorem hp_think {G : bc_G} {M : bc_M} {a0 a1 : Int} {F : Int → bc_M → Prop} (h : bc_Call G yX8_think cX8_think 4 (some .int) 9 3 [vR G 1 0, vI a0, vI a1] M (AFI csA F)) : bh_Call G yL_think cL_think 5 (some .int) [(0, 10, 13, 13), (0, 10, 17, 19)] 10 3 [vR G 1 0, vI a0, vI a1, vR G 51 0] M (fun r M' => ∃ k, r = .inr (some (vI k)) ∧ (0 ≤ k ∧ k ≤ 3) ∧ F k M') := by
  refine bh_enter (L := [some (vR G 1 0), some (vI a0), some (vI a1), some (vR G 51 0), none]) (by decide) rfl rfl ?_
  refine wg_aload_n eL_think_0 rfl ?_
  refine wg_iconst eL_think_1 ?_
  refine wg_aload_n eL_think_2 rfl ?_
  refine wg_iload_n eL_think_3 rfl ?_
  refine wg_iload_n eL_think_4 rfl ?_
  refine bg_callVH (k := 1) (j := 0) (ci := 8) (n := 2) (As := [vI a0, vI a1]) (st := [vI 0, vR G 51 0]) eL_think_5 mw_872 mw_873 mw_874 mw_105 mw_875 ⟨rfl, by decide, by decide, by decide +kernel⟩ rfl rfl (by decide) rfl (by decide) ⟨by decide, by decide⟩ ⟨by decide, by decide⟩ rfl (bc_mono h (fun r M1 hr => ?_))
  cases r with
  | inl E =>
    obtain ⟨k, hk, hF⟩ := hr
    simp only [csA, List.mem_cons, Prod.mk.injEq, List.not_mem_nil, or_false] at hk
    rcases hk with ⟨rfl, rfl⟩ | ⟨rfl, rfl⟩
    · refine ⟨13, ⟨[], (0, 10, 13, 13), [(0, 10, 17, 19)], rfl, fun _ q => absurd q List.not_mem_nil, ⟨by decide, by decide, mw_680, by decide⟩, rfl⟩, fun q => ?_⟩
      refine wg_astore_x eL_think_13 rfl ?_
      refine wg_iconst eL_think_15 ?_
      exact wg_ireturn eL_think_16 ⟨_, rfl, by decide, hF⟩
    · refine ⟨17, ⟨[(0, 10, 13, 13)], (0, 10, 17, 19), [], rfl, List.forall_mem_cons.mpr ⟨⟨by decide, _, mw_680, by decide⟩, fun _ q => absurd q List.not_mem_nil⟩, ⟨by decide, by decide, mw_759, by decide⟩, rfl⟩, fun q => ?_⟩
      refine wg_astore_x eL_think_17 rfl ?_
      refine wg_iconst eL_think_19 ?_
      exact wg_ireturn eL_think_20 ⟨_, rfl, by decide, hF⟩
  | inr w =>
    obtain ⟨x, rfl, hF⟩ := hr
    refine wg_i2l eL_think_8 ?_
    refine bg_last (k := 51) (n := 1) (j := 0) (i := 0) eL_think_9 (fun _ => rfl) (by decide) (by decide) (by decide) ?_
    refine wg_goto eL_think_10 ?_
    refine wg_iconst eL_think_21 ?_
    exact wg_ireturn eL_think_22 ⟨_, rfl, by decide, hF⟩
theorem hp_setPopularity {G : bc_G} {M : bc_M} {a0 a1 : Int} {F : Int → bc_M → Prop} (h : bc_Call G yX8_setPopularity cX8_setPopularity 4 (some .int) 9 3 [vR G 1 0, vI a0, vI a1] M (AFI csA F)) : bh_Call G yL_setPopularity cL_setPopularity 5 (some .int) [(0, 10, 13, 13), (0, 10, 17, 19)] 10 3 [vR G 1 0, vI a0, vI a1, vR G 51 0] M (fun r M' => ∃ k, r = .inr (some (vI k)) ∧ (0 ≤ k ∧ k ≤ 3) ∧ F k M') := by
  refine bh_enter (L := [some (vR G 1 0), some (vI a0), some (vI a1), some (vR G 51 0), none]) (by decide) rfl rfl ?_
  refine wg_aload_n eL_setPopularity_0 rfl ?_
  refine wg_iconst eL_setPopularity_1 ?_
  refine wg_aload_n eL_setPopularity_2 rfl ?_
  refine wg_iload_n eL_setPopularity_3 rfl ?_
  refine wg_iload_n eL_setPopularity_4 rfl ?_
  refine bg_callVH (k := 1) (j := 0) (ci := 8) (n := 2) (As := [vI a0, vI a1]) (st := [vI 0, vR G 51 0]) eL_setPopularity_5 mw_879 mw_880 mw_881 mw_105 mw_882 ⟨rfl, by decide, by decide, by decide +kernel⟩ rfl rfl (by decide) rfl (by decide) ⟨by decide, by decide⟩ ⟨by decide, by decide⟩ rfl (bc_mono h (fun r M1 hr => ?_))
  cases r with
  | inl E =>
    obtain ⟨k, hk, hF⟩ := hr
    simp only [csA, List.mem_cons, Prod.mk.injEq, List.not_mem_nil, or_false] at hk
    rcases hk with ⟨rfl, rfl⟩ | ⟨rfl, rfl⟩
    · refine ⟨13, ⟨[], (0, 10, 13, 13), [(0, 10, 17, 19)], rfl, fun _ q => absurd q List.not_mem_nil, ⟨by decide, by decide, mw_680, by decide⟩, rfl⟩, fun q => ?_⟩
      refine wg_astore_x eL_setPopularity_13 rfl ?_
      refine wg_iconst eL_setPopularity_15 ?_
      exact wg_ireturn eL_setPopularity_16 ⟨_, rfl, by decide, hF⟩
    · refine ⟨17, ⟨[(0, 10, 13, 13)], (0, 10, 17, 19), [], rfl, List.forall_mem_cons.mpr ⟨⟨by decide, _, mw_680, by decide⟩, fun _ q => absurd q List.not_mem_nil⟩, ⟨by decide, by decide, mw_759, by decide⟩, rfl⟩, fun q => ?_⟩
      refine wg_astore_x eL_setPopularity_17 rfl ?_
      refine wg_iconst eL_setPopularity_19 ?_
      exact wg_ireturn eL_setPopularity_20 ⟨_, rfl, by decide, hF⟩
  | inr w =>
    obtain ⟨x, rfl, hF⟩ := hr
    refine wg_i2l eL_setPopularity_8 ?_
    refine bg_last (k := 51) (n := 1) (j := 0) (i := 0) eL_setPopularity_9 (fun _ => rfl) (by decide) (by decide) (by decide) ?_
    refine wg_goto eL_setPopularity_10 ?_
    refine wg_iconst eL_setPopularity_21 ?_
    exact wg_ireturn eL_setPopularity_22 ⟨_, rfl, by decide, hF⟩
theorem hp_setBound {G : bc_G} {M : bc_M} {a0 a1 : Int} {F : Int → bc_M → Prop} (h : bc_Call G yX8_setBound cX8_setBound 4 (some .int) 9 3 [vR G 1 0, vI a0, vI a1] M (AFI csA F)) : bh_Call G yL_setBound cL_setBound 5 (some .int) [(0, 10, 13, 13), (0, 10, 17, 19)] 10 3 [vR G 1 0, vI a0, vI a1, vR G 51 0] M (fun r M' => ∃ k, r = .inr (some (vI k)) ∧ (0 ≤ k ∧ k ≤ 3) ∧ F k M') := by
  refine bh_enter (L := [some (vR G 1 0), some (vI a0), some (vI a1), some (vR G 51 0), none]) (by decide) rfl rfl ?_
  refine wg_aload_n eL_setBound_0 rfl ?_
  refine wg_iconst eL_setBound_1 ?_
  refine wg_aload_n eL_setBound_2 rfl ?_
  refine wg_iload_n eL_setBound_3 rfl ?_
  refine wg_iload_n eL_setBound_4 rfl ?_
  refine bg_callVH (k := 1) (j := 0) (ci := 8) (n := 2) (As := [vI a0, vI a1]) (st := [vI 0, vR G 51 0]) eL_setBound_5 mw_886 mw_887 mw_888 mw_105 mw_889 ⟨rfl, by decide, by decide, by decide +kernel⟩ rfl rfl (by decide) rfl (by decide) ⟨by decide, by decide⟩ ⟨by decide, by decide⟩ rfl (bc_mono h (fun r M1 hr => ?_))
  cases r with
  | inl E =>
    obtain ⟨k, hk, hF⟩ := hr
    simp only [csA, List.mem_cons, Prod.mk.injEq, List.not_mem_nil, or_false] at hk
    rcases hk with ⟨rfl, rfl⟩ | ⟨rfl, rfl⟩
    · refine ⟨13, ⟨[], (0, 10, 13, 13), [(0, 10, 17, 19)], rfl, fun _ q => absurd q List.not_mem_nil, ⟨by decide, by decide, mw_680, by decide⟩, rfl⟩, fun q => ?_⟩
      refine wg_astore_x eL_setBound_13 rfl ?_
      refine wg_iconst eL_setBound_15 ?_
      exact wg_ireturn eL_setBound_16 ⟨_, rfl, by decide, hF⟩
    · refine ⟨17, ⟨[(0, 10, 13, 13)], (0, 10, 17, 19), [], rfl, List.forall_mem_cons.mpr ⟨⟨by decide, _, mw_680, by decide⟩, fun _ q => absurd q List.not_mem_nil⟩, ⟨by decide, by decide, mw_759, by decide⟩, rfl⟩, fun q => ?_⟩
      refine wg_astore_x eL_setBound_17 rfl ?_
      refine wg_iconst eL_setBound_19 ?_
      exact wg_ireturn eL_setBound_20 ⟨_, rfl, by decide, hF⟩
  | inr w =>
    obtain ⟨x, rfl, hF⟩ := hr
    refine wg_i2l eL_setBound_8 ?_
    refine bg_last (k := 51) (n := 1) (j := 0) (i := 0) eL_setBound_9 (fun _ => rfl) (by decide) (by decide) (by decide) ?_
    refine wg_goto eL_setBound_10 ?_
    refine wg_iconst eL_setBound_21 ?_
    exact wg_ireturn eL_setBound_22 ⟨_, rfl, by decide, hF⟩
theorem hp_setFrequency {G : bc_G} {M : bc_M} {a0 a1 : Int} {F : Int → bc_M → Prop} (h : bc_Call G yX8_setFrequency cX8_setFrequency 4 (some .int) 9 3 [vR G 1 0, vI a0, vI a1] M (AFI csA F)) : bh_Call G yL_setFrequency cL_setFrequency 5 (some .int) [(0, 10, 13, 13), (0, 10, 17, 19)] 10 3 [vR G 1 0, vI a0, vI a1, vR G 51 0] M (fun r M' => ∃ k, r = .inr (some (vI k)) ∧ (0 ≤ k ∧ k ≤ 3) ∧ F k M') := by
  refine bh_enter (L := [some (vR G 1 0), some (vI a0), some (vI a1), some (vR G 51 0), none]) (by decide) rfl rfl ?_
  refine wg_aload_n eL_setFrequency_0 rfl ?_
  refine wg_iconst eL_setFrequency_1 ?_
  refine wg_aload_n eL_setFrequency_2 rfl ?_
  refine wg_iload_n eL_setFrequency_3 rfl ?_
  refine wg_iload_n eL_setFrequency_4 rfl ?_
  refine bg_callVH (k := 1) (j := 0) (ci := 8) (n := 2) (As := [vI a0, vI a1]) (st := [vI 0, vR G 51 0]) eL_setFrequency_5 mw_893 mw_894 mw_895 mw_105 mw_896 ⟨rfl, by decide, by decide, by decide +kernel⟩ rfl rfl (by decide) rfl (by decide) ⟨by decide, by decide⟩ ⟨by decide, by decide⟩ rfl (bc_mono h (fun r M1 hr => ?_))
  cases r with
  | inl E =>
    obtain ⟨k, hk, hF⟩ := hr
    simp only [csA, List.mem_cons, Prod.mk.injEq, List.not_mem_nil, or_false] at hk
    rcases hk with ⟨rfl, rfl⟩ | ⟨rfl, rfl⟩
    · refine ⟨13, ⟨[], (0, 10, 13, 13), [(0, 10, 17, 19)], rfl, fun _ q => absurd q List.not_mem_nil, ⟨by decide, by decide, mw_680, by decide⟩, rfl⟩, fun q => ?_⟩
      refine wg_astore_x eL_setFrequency_13 rfl ?_
      refine wg_iconst eL_setFrequency_15 ?_
      exact wg_ireturn eL_setFrequency_16 ⟨_, rfl, by decide, hF⟩
    · refine ⟨17, ⟨[(0, 10, 13, 13)], (0, 10, 17, 19), [], rfl, List.forall_mem_cons.mpr ⟨⟨by decide, _, mw_680, by decide⟩, fun _ q => absurd q List.not_mem_nil⟩, ⟨by decide, by decide, mw_759, by decide⟩, rfl⟩, fun q => ?_⟩
      refine wg_astore_x eL_setFrequency_17 rfl ?_
      refine wg_iconst eL_setFrequency_19 ?_
      exact wg_ireturn eL_setFrequency_20 ⟨_, rfl, by decide, hF⟩
  | inr w =>
    obtain ⟨x, rfl, hF⟩ := hr
    refine wg_i2l eL_setFrequency_8 ?_
    refine bg_last (k := 51) (n := 1) (j := 0) (i := 0) eL_setFrequency_9 (fun _ => rfl) (by decide) (by decide) (by decide) ?_
    refine wg_goto eL_setFrequency_10 ?_
    refine wg_iconst eL_setFrequency_21 ?_
    exact wg_ireturn eL_setFrequency_22 ⟨_, rfl, by decide, hF⟩
theorem hp_setIndex {G : bc_G} {M : bc_M} {a0 a1 : Int} {F : Int → bc_M → Prop} (h : bc_Call G yX8_setIndex cX8_setIndex 3 (some .int) 9 3 [vR G 1 0, vI a0, vI a1] M (AFI csA F)) : bh_Call G yL_setIndex cL_setIndex 5 (some .int) [(0, 10, 13, 13), (0, 10, 17, 19)] 10 3 [vR G 1 0, vI a0, vI a1, vR G 51 0] M (fun r M' => ∃ k, r = .inr (some (vI k)) ∧ (0 ≤ k ∧ k ≤ 3) ∧ F k M') := by
  refine bh_enter (L := [some (vR G 1 0), some (vI a0), some (vI a1), some (vR G 51 0), none]) (by decide) rfl rfl ?_
  refine wg_aload_n eL_setIndex_0 rfl ?_
  refine wg_iconst eL_setIndex_1 ?_
  refine wg_aload_n eL_setIndex_2 rfl ?_
  refine wg_iload_n eL_setIndex_3 rfl ?_
  refine wg_iload_n eL_setIndex_4 rfl ?_
  refine bg_callVH (k := 1) (j := 0) (ci := 8) (n := 2) (As := [vI a0, vI a1]) (st := [vI 0, vR G 51 0]) eL_setIndex_5 mw_904 mw_905 mw_906 mw_105 mw_907 ⟨rfl, by decide, by decide, by decide +kernel⟩ rfl rfl (by decide) rfl (by decide) ⟨by decide, by decide⟩ ⟨by decide, by decide⟩ rfl (bc_mono h (fun r M1 hr => ?_))
  cases r with
  | inl E =>
    obtain ⟨k, hk, hF⟩ := hr
    simp only [csA, List.mem_cons, Prod.mk.injEq, List.not_mem_nil, or_false] at hk
    rcases hk with ⟨rfl, rfl⟩ | ⟨rfl, rfl⟩
    · refine ⟨13, ⟨[], (0, 10, 13, 13), [(0, 10, 17, 19)], rfl, fun _ q => absurd q List.not_mem_nil, ⟨by decide, by decide, mw_680, by decide⟩, rfl⟩, fun q => ?_⟩
      refine wg_astore_x eL_setIndex_13 rfl ?_
      refine wg_iconst eL_setIndex_15 ?_
      exact wg_ireturn eL_setIndex_16 ⟨_, rfl, by decide, hF⟩
    · refine ⟨17, ⟨[(0, 10, 13, 13)], (0, 10, 17, 19), [], rfl, List.forall_mem_cons.mpr ⟨⟨by decide, _, mw_680, by decide⟩, fun _ q => absurd q List.not_mem_nil⟩, ⟨by decide, by decide, mw_759, by decide⟩, rfl⟩, fun q => ?_⟩
      refine wg_astore_x eL_setIndex_17 rfl ?_
      refine wg_iconst eL_setIndex_19 ?_
      exact wg_ireturn eL_setIndex_20 ⟨_, rfl, by decide, hF⟩
  | inr w =>
    obtain ⟨x, rfl, hF⟩ := hr
    refine wg_i2l eL_setIndex_8 ?_
    refine bg_last (k := 51) (n := 1) (j := 0) (i := 0) eL_setIndex_9 (fun _ => rfl) (by decide) (by decide) (by decide) ?_
    refine wg_goto eL_setIndex_10 ?_
    refine wg_iconst eL_setIndex_21 ?_
    exact wg_ireturn eL_setIndex_22 ⟨_, rfl, by decide, hF⟩
theorem hp_moveItem {G : bc_G} {M : bc_M} {a0 a1 : Int} {F : Int → bc_M → Prop} (h : bc_Call G yX8_moveItem cX8_moveItem 4 (some .int) 9 3 [vR G 1 0, vI a0, vI a1] M (AFI csA F)) : bh_Call G yL_moveItem cL_moveItem 5 (some .int) [(0, 10, 13, 13), (0, 10, 17, 19)] 10 3 [vR G 1 0, vI a0, vI a1, vR G 51 0] M (fun r M' => ∃ k, r = .inr (some (vI k)) ∧ (0 ≤ k ∧ k ≤ 3) ∧ F k M') := by
  refine bh_enter (L := [some (vR G 1 0), some (vI a0), some (vI a1), some (vR G 51 0), none]) (by decide) rfl rfl ?_
  refine wg_aload_n eL_moveItem_0 rfl ?_
  refine wg_iconst eL_moveItem_1 ?_
  refine wg_aload_n eL_moveItem_2 rfl ?_
  refine wg_iload_n eL_moveItem_3 rfl ?_
  refine wg_iload_n eL_moveItem_4 rfl ?_
  refine bg_callVH (k := 1) (j := 0) (ci := 8) (n := 2) (As := [vI a0, vI a1]) (st := [vI 0, vR G 51 0]) eL_moveItem_5 mw_911 mw_912 mw_913 mw_105 mw_914 ⟨rfl, by decide, by decide, by decide +kernel⟩ rfl rfl (by decide) rfl (by decide) ⟨by decide, by decide⟩ ⟨by decide, by decide⟩ rfl (bc_mono h (fun r M1 hr => ?_))
  cases r with
  | inl E =>
    obtain ⟨k, hk, hF⟩ := hr
    simp only [csA, List.mem_cons, Prod.mk.injEq, List.not_mem_nil, or_false] at hk
    rcases hk with ⟨rfl, rfl⟩ | ⟨rfl, rfl⟩
    · refine ⟨13, ⟨[], (0, 10, 13, 13), [(0, 10, 17, 19)], rfl, fun _ q => absurd q List.not_mem_nil, ⟨by decide, by decide, mw_680, by decide⟩, rfl⟩, fun q => ?_⟩
      refine wg_astore_x eL_moveItem_13 rfl ?_
      refine wg_iconst eL_moveItem_15 ?_
      exact wg_ireturn eL_moveItem_16 ⟨_, rfl, by decide, hF⟩
    · refine ⟨17, ⟨[(0, 10, 13, 13)], (0, 10, 17, 19), [], rfl, List.forall_mem_cons.mpr ⟨⟨by decide, _, mw_680, by decide⟩, fun _ q => absurd q List.not_mem_nil⟩, ⟨by decide, by decide, mw_759, by decide⟩, rfl⟩, fun q => ?_⟩
      refine wg_astore_x eL_moveItem_17 rfl ?_
      refine wg_iconst eL_moveItem_19 ?_
      exact wg_ireturn eL_moveItem_20 ⟨_, rfl, by decide, hF⟩
  | inr w =>
    obtain ⟨x, rfl, hF⟩ := hr
    refine wg_i2l eL_moveItem_8 ?_
    refine bg_last (k := 51) (n := 1) (j := 0) (i := 0) eL_moveItem_9 (fun _ => rfl) (by decide) (by decide) (by decide) ?_
    refine wg_goto eL_moveItem_10 ?_
    refine wg_iconst eL_moveItem_21 ?_
    exact wg_ireturn eL_moveItem_22 ⟨_, rfl, by decide, hF⟩
theorem hp_repair {G : bc_G} {M : bc_M} {F : Int → bc_M → Prop} (h : bc_Call G yX8_repair cX8_repair 1 (some .int) 9 1 [vR G 1 0] M (AFI csS F)) : bh_Call G yL_repair cL_repair 3 (some .int) [(0, 8, 11, 13)] 10 1 [vR G 1 0, vR G 51 0] M (fun r M' => ∃ k, r = .inr (some (vI k)) ∧ (0 ≤ k ∧ k ≤ 3) ∧ F k M') := by
  refine bh_enter (L := [some (vR G 1 0), some (vR G 51 0), none]) (by decide) rfl rfl ?_
  refine wg_aload_n eL_repair_0 rfl ?_
  refine wg_iconst eL_repair_1 ?_
  refine wg_aload_n eL_repair_2 rfl ?_
  refine bg_callVH (k := 1) (j := 0) (ci := 8) (n := 0) (As := []) (st := [vI 0, vR G 51 0]) eL_repair_3 mw_918 mw_919 mw_920 mw_105 mw_921 ⟨rfl, by decide, by decide, by decide +kernel⟩ rfl rfl (by decide) rfl (by decide) ⟨by decide, by decide⟩ ⟨by decide, by decide⟩ rfl (bc_mono h (fun r M1 hr => ?_))
  cases r with
  | inl E =>
    obtain ⟨k, hk, hF⟩ := hr
    simp only [csS, List.mem_cons, Prod.mk.injEq, List.not_mem_nil, or_false] at hk
    obtain ⟨rfl, rfl⟩ := hk
    refine ⟨11, ⟨[], (0, 8, 11, 13), [], rfl, fun _ q => absurd q List.not_mem_nil, ⟨by decide, by decide, mw_680, by decide⟩, rfl⟩, fun q => ?_⟩
    refine wg_astore_nx eL_repair_11 rfl ?_
    refine wg_iconst eL_repair_12 ?_
    exact wg_ireturn eL_repair_13 ⟨_, rfl, by decide, hF⟩
  | inr w =>
    obtain ⟨x, rfl, hF⟩ := hr
    refine wg_i2l eL_repair_6 ?_
    refine bg_last (k := 51) (n := 1) (j := 0) (i := 0) eL_repair_7 (fun _ => rfl) (by decide) (by decide) (by decide) ?_
    refine wg_goto eL_repair_8 ?_
    refine wg_iconst eL_repair_14 ?_
    exact wg_ireturn eL_repair_15 ⟨_, rfl, by decide, hF⟩
theorem hp_applyTiers {G : bc_G} {M : bc_M} {a0 : Int} {F : Int → bc_M → Prop} (h : bc_Call G yX8_applyTiers cX8_applyTiers 3 (some .int) 9 2 [vR G 1 0, vI a0] M (AFI csA F)) : bh_Call G yL_applyTiers cL_applyTiers 4 (some .int) [(0, 9, 12, 13), (0, 9, 15, 19)] 10 2 [vR G 1 0, vI a0, vR G 51 0] M (fun r M' => ∃ k, r = .inr (some (vI k)) ∧ (0 ≤ k ∧ k ≤ 3) ∧ F k M') := by
  refine bh_enter (L := [some (vR G 1 0), some (vI a0), some (vR G 51 0), none]) (by decide) rfl rfl ?_
  refine wg_aload_n eL_applyTiers_0 rfl ?_
  refine wg_iconst eL_applyTiers_1 ?_
  refine wg_aload_n eL_applyTiers_2 rfl ?_
  refine wg_iload_n eL_applyTiers_3 rfl ?_
  refine bg_callVH (k := 1) (j := 0) (ci := 8) (n := 1) (As := [vI a0]) (st := [vI 0, vR G 51 0]) eL_applyTiers_4 mw_949 mw_950 mw_951 mw_105 mw_952 ⟨rfl, by decide, by decide, by decide +kernel⟩ rfl rfl (by decide) rfl (by decide) ⟨by decide, by decide⟩ ⟨by decide, by decide⟩ rfl (bc_mono h (fun r M1 hr => ?_))
  cases r with
  | inl E =>
    obtain ⟨k, hk, hF⟩ := hr
    simp only [csA, List.mem_cons, Prod.mk.injEq, List.not_mem_nil, or_false] at hk
    rcases hk with ⟨rfl, rfl⟩ | ⟨rfl, rfl⟩
    · refine ⟨12, ⟨[], (0, 9, 12, 13), [(0, 9, 15, 19)], rfl, fun _ q => absurd q List.not_mem_nil, ⟨by decide, by decide, mw_680, by decide⟩, rfl⟩, fun q => ?_⟩
      refine wg_astore_nx eL_applyTiers_12 rfl ?_
      refine wg_iconst eL_applyTiers_13 ?_
      exact wg_ireturn eL_applyTiers_14 ⟨_, rfl, by decide, hF⟩
    · refine ⟨15, ⟨[(0, 9, 12, 13)], (0, 9, 15, 19), [], rfl, List.forall_mem_cons.mpr ⟨⟨by decide, _, mw_680, by decide⟩, fun _ q => absurd q List.not_mem_nil⟩, ⟨by decide, by decide, mw_759, by decide⟩, rfl⟩, fun q => ?_⟩
      refine wg_astore_nx eL_applyTiers_15 rfl ?_
      refine wg_iconst eL_applyTiers_16 ?_
      exact wg_ireturn eL_applyTiers_17 ⟨_, rfl, by decide, hF⟩
  | inr w =>
    obtain ⟨x, rfl, hF⟩ := hr
    refine wg_i2l eL_applyTiers_7 ?_
    refine bg_last (k := 51) (n := 1) (j := 0) (i := 0) eL_applyTiers_8 (fun _ => rfl) (by decide) (by decide) (by decide) ?_
    refine wg_goto eL_applyTiers_9 ?_
    refine wg_iconst eL_applyTiers_18 ?_
    exact wg_ireturn eL_applyTiers_19 ⟨_, rfl, by decide, hF⟩
theorem hp_itemValue {G : bc_G} {M : bc_M} {a0 a1 : Int} {F : Int → bc_M → Prop} (h : bc_Call G yX8_itemValue cX8_itemValue 3 (some .int) 9 3 [vR G 1 0, vI a0, vI a1] M (AFI csA F)) : bh_Call G yL_itemValue cL_itemValue 5 (some .int) [(0, 10, 13, 13), (0, 10, 17, 19)] 10 3 [vR G 1 0, vI a0, vI a1, vR G 51 0] M (fun r M' => ∃ k, r = .inr (some (vI k)) ∧ (0 ≤ k ∧ k ≤ 3) ∧ F k M') := by
  refine bh_enter (L := [some (vR G 1 0), some (vI a0), some (vI a1), some (vR G 51 0), none]) (by decide) rfl rfl ?_
  refine wg_aload_n eL_itemValue_0 rfl ?_
  refine wg_iconst eL_itemValue_1 ?_
  refine wg_aload_n eL_itemValue_2 rfl ?_
  refine wg_iload_n eL_itemValue_3 rfl ?_
  refine wg_iload_n eL_itemValue_4 rfl ?_
  refine bg_callVH (k := 1) (j := 0) (ci := 8) (n := 2) (As := [vI a0, vI a1]) (st := [vI 0, vR G 51 0]) eL_itemValue_5 mw_1010 mw_1011 mw_1012 mw_105 mw_1013 ⟨rfl, by decide, by decide, by decide +kernel⟩ rfl rfl (by decide) rfl (by decide) ⟨by decide, by decide⟩ ⟨by decide, by decide⟩ rfl (bc_mono h (fun r M1 hr => ?_))
  cases r with
  | inl E =>
    obtain ⟨k, hk, hF⟩ := hr
    simp only [csA, List.mem_cons, Prod.mk.injEq, List.not_mem_nil, or_false] at hk
    rcases hk with ⟨rfl, rfl⟩ | ⟨rfl, rfl⟩
    · refine ⟨13, ⟨[], (0, 10, 13, 13), [(0, 10, 17, 19)], rfl, fun _ q => absurd q List.not_mem_nil, ⟨by decide, by decide, mw_680, by decide⟩, rfl⟩, fun q => ?_⟩
      refine wg_astore_x eL_itemValue_13 rfl ?_
      refine wg_iconst eL_itemValue_15 ?_
      exact wg_ireturn eL_itemValue_16 ⟨_, rfl, by decide, hF⟩
    · refine ⟨17, ⟨[(0, 10, 13, 13)], (0, 10, 17, 19), [], rfl, List.forall_mem_cons.mpr ⟨⟨by decide, _, mw_680, by decide⟩, fun _ q => absurd q List.not_mem_nil⟩, ⟨by decide, by decide, mw_759, by decide⟩, rfl⟩, fun q => ?_⟩
      refine wg_astore_x eL_itemValue_17 rfl ?_
      refine wg_iconst eL_itemValue_19 ?_
      exact wg_ireturn eL_itemValue_20 ⟨_, rfl, by decide, hF⟩
  | inr w =>
    obtain ⟨x, rfl, hF⟩ := hr
    refine wg_i2l eL_itemValue_8 ?_
    refine bg_last (k := 51) (n := 1) (j := 0) (i := 0) eL_itemValue_9 (fun _ => rfl) (by decide) (by decide) (by decide) ?_
    refine wg_goto eL_itemValue_10 ?_
    refine wg_iconst eL_itemValue_21 ?_
    exact wg_ireturn eL_itemValue_22 ⟨_, rfl, by decide, hF⟩
theorem hp_frequency {G : bc_G} {M : bc_M} {a0 : Int} {F : Int → bc_M → Prop} (h : bc_Call G yX8_frequency cX8_frequency 2 (some .int) 9 2 [vR G 1 0, vI a0] M (AFI csA F)) : bh_Call G yL_frequency cL_frequency 4 (some .int) [(0, 9, 12, 13), (0, 9, 15, 19)] 10 2 [vR G 1 0, vI a0, vR G 51 0] M (fun r M' => ∃ k, r = .inr (some (vI k)) ∧ (0 ≤ k ∧ k ≤ 3) ∧ F k M') := by
  refine bh_enter (L := [some (vR G 1 0), some (vI a0), some (vR G 51 0), none]) (by decide) rfl rfl ?_
  refine wg_aload_n eL_frequency_0 rfl ?_
  refine wg_iconst eL_frequency_1 ?_
  refine wg_aload_n eL_frequency_2 rfl ?_
  refine wg_iload_n eL_frequency_3 rfl ?_
  refine bg_callVH (k := 1) (j := 0) (ci := 8) (n := 1) (As := [vI a0]) (st := [vI 0, vR G 51 0]) eL_frequency_4 mw_1017 mw_1018 mw_1019 mw_105 mw_1020 ⟨rfl, by decide, by decide, by decide +kernel⟩ rfl rfl (by decide) rfl (by decide) ⟨by decide, by decide⟩ ⟨by decide, by decide⟩ rfl (bc_mono h (fun r M1 hr => ?_))
  cases r with
  | inl E =>
    obtain ⟨k, hk, hF⟩ := hr
    simp only [csA, List.mem_cons, Prod.mk.injEq, List.not_mem_nil, or_false] at hk
    rcases hk with ⟨rfl, rfl⟩ | ⟨rfl, rfl⟩
    · refine ⟨12, ⟨[], (0, 9, 12, 13), [(0, 9, 15, 19)], rfl, fun _ q => absurd q List.not_mem_nil, ⟨by decide, by decide, mw_680, by decide⟩, rfl⟩, fun q => ?_⟩
      refine wg_astore_nx eL_frequency_12 rfl ?_
      refine wg_iconst eL_frequency_13 ?_
      exact wg_ireturn eL_frequency_14 ⟨_, rfl, by decide, hF⟩
    · refine ⟨15, ⟨[(0, 9, 12, 13)], (0, 9, 15, 19), [], rfl, List.forall_mem_cons.mpr ⟨⟨by decide, _, mw_680, by decide⟩, fun _ q => absurd q List.not_mem_nil⟩, ⟨by decide, by decide, mw_759, by decide⟩, rfl⟩, fun q => ?_⟩
      refine wg_astore_nx eL_frequency_15 rfl ?_
      refine wg_iconst eL_frequency_16 ?_
      exact wg_ireturn eL_frequency_17 ⟨_, rfl, by decide, hF⟩
  | inr w =>
    obtain ⟨x, rfl, hF⟩ := hr
    refine wg_i2l eL_frequency_7 ?_
    refine bg_last (k := 51) (n := 1) (j := 0) (i := 0) eL_frequency_8 (fun _ => rfl) (by decide) (by decide) (by decide) ?_
    refine wg_goto eL_frequency_9 ?_
    refine wg_iconst eL_frequency_18 ?_
    exact wg_ireturn eL_frequency_19 ⟨_, rfl, by decide, hF⟩
theorem hp_itemsOf {G : bc_G} {M : bc_M} {a0 : Int} {F : Int → bc_M → Prop} (h : bc_Call G yX8_itemsOf cX8_itemsOf 4 (some .int) 9 2 [vR G 1 0, vI a0] M (AFI csA F)) : bh_Call G yL_itemsOf cL_itemsOf 4 (some .int) [(0, 9, 12, 13), (0, 9, 15, 19)] 10 2 [vR G 1 0, vI a0, vR G 51 0] M (fun r M' => ∃ k, r = .inr (some (vI k)) ∧ (0 ≤ k ∧ k ≤ 3) ∧ F k M') := by
  refine bh_enter (L := [some (vR G 1 0), some (vI a0), some (vR G 51 0), none]) (by decide) rfl rfl ?_
  refine wg_aload_n eL_itemsOf_0 rfl ?_
  refine wg_iconst eL_itemsOf_1 ?_
  refine wg_aload_n eL_itemsOf_2 rfl ?_
  refine wg_iload_n eL_itemsOf_3 rfl ?_
  refine bg_callVH (k := 1) (j := 0) (ci := 8) (n := 1) (As := [vI a0]) (st := [vI 0, vR G 51 0]) eL_itemsOf_4 mw_1024 mw_1025 mw_1026 mw_105 mw_1027 ⟨rfl, by decide, by decide, by decide +kernel⟩ rfl rfl (by decide) rfl (by decide) ⟨by decide, by decide⟩ ⟨by decide, by decide⟩ rfl (bc_mono h (fun r M1 hr => ?_))
  cases r with
  | inl E =>
    obtain ⟨k, hk, hF⟩ := hr
    simp only [csA, List.mem_cons, Prod.mk.injEq, List.not_mem_nil, or_false] at hk
    rcases hk with ⟨rfl, rfl⟩ | ⟨rfl, rfl⟩
    · refine ⟨12, ⟨[], (0, 9, 12, 13), [(0, 9, 15, 19)], rfl, fun _ q => absurd q List.not_mem_nil, ⟨by decide, by decide, mw_680, by decide⟩, rfl⟩, fun q => ?_⟩
      refine wg_astore_nx eL_itemsOf_12 rfl ?_
      refine wg_iconst eL_itemsOf_13 ?_
      exact wg_ireturn eL_itemsOf_14 ⟨_, rfl, by decide, hF⟩
    · refine ⟨15, ⟨[(0, 9, 12, 13)], (0, 9, 15, 19), [], rfl, List.forall_mem_cons.mpr ⟨⟨by decide, _, mw_680, by decide⟩, fun _ q => absurd q List.not_mem_nil⟩, ⟨by decide, by decide, mw_759, by decide⟩, rfl⟩, fun q => ?_⟩
      refine wg_astore_nx eL_itemsOf_15 rfl ?_
      refine wg_iconst eL_itemsOf_16 ?_
      exact wg_ireturn eL_itemsOf_17 ⟨_, rfl, by decide, hF⟩
  | inr w =>
    obtain ⟨x, rfl, hF⟩ := hr
    refine wg_i2l eL_itemsOf_7 ?_
    refine bg_last (k := 51) (n := 1) (j := 0) (i := 0) eL_itemsOf_8 (fun _ => rfl) (by decide) (by decide) (by decide) ?_
    refine wg_goto eL_itemsOf_9 ?_
    refine wg_iconst eL_itemsOf_18 ?_
    exact wg_ireturn eL_itemsOf_19 ⟨_, rfl, by decide, hF⟩
theorem hp_cycle {G : bc_G} {M : bc_M} {F : Int → bc_M → Prop} (h : bc_Call G yX8_cycle cX8_cycle 1 (some .int) 9 1 [vR G 1 0] M (AFI csS F)) : bh_Call G yL_cycle cL_cycle 3 (some .int) [(0, 8, 11, 13)] 10 1 [vR G 1 0, vR G 51 0] M (fun r M' => ∃ k, r = .inr (some (vI k)) ∧ (0 ≤ k ∧ k ≤ 3) ∧ F k M') := by
  refine bh_enter (L := [some (vR G 1 0), some (vR G 51 0), none]) (by decide) rfl rfl ?_
  refine wg_aload_n eL_cycle_0 rfl ?_
  refine wg_iconst eL_cycle_1 ?_
  refine wg_aload_n eL_cycle_2 rfl ?_
  refine bg_callVH (k := 1) (j := 0) (ci := 8) (n := 0) (As := []) (st := [vI 0, vR G 51 0]) eL_cycle_3 mw_1031 mw_1032 mw_1033 mw_105 mw_1034 ⟨rfl, by decide, by decide, by decide +kernel⟩ rfl rfl (by decide) rfl (by decide) ⟨by decide, by decide⟩ ⟨by decide, by decide⟩ rfl (bc_mono h (fun r M1 hr => ?_))
  cases r with
  | inl E =>
    obtain ⟨k, hk, hF⟩ := hr
    simp only [csS, List.mem_cons, Prod.mk.injEq, List.not_mem_nil, or_false] at hk
    obtain ⟨rfl, rfl⟩ := hk
    refine ⟨11, ⟨[], (0, 8, 11, 13), [], rfl, fun _ q => absurd q List.not_mem_nil, ⟨by decide, by decide, mw_680, by decide⟩, rfl⟩, fun q => ?_⟩
    refine wg_astore_nx eL_cycle_11 rfl ?_
    refine wg_iconst eL_cycle_12 ?_
    exact wg_ireturn eL_cycle_13 ⟨_, rfl, by decide, hF⟩
  | inr w =>
    obtain ⟨x, rfl, hF⟩ := hr
    refine wg_i2l eL_cycle_6 ?_
    refine bg_last (k := 51) (n := 1) (j := 0) (i := 0) eL_cycle_7 (fun _ => rfl) (by decide) (by decide) (by decide) ?_
    refine wg_goto eL_cycle_8 ?_
    refine wg_iconst eL_cycle_14 ?_
    exact wg_ireturn eL_cycle_15 ⟨_, rfl, by decide, hF⟩
theorem hp_slotAt {G : bc_G} {M : bc_M} {a0 : Int} {F : Int → bc_M → Prop} (h : bc_Call G yX8_slotAt cX8_slotAt 2 (some .int) 9 2 [vR G 1 0, vI a0] M (AFI csA F)) : bh_Call G yL_slotAt cL_slotAt 4 (some .int) [(0, 9, 12, 13), (0, 9, 15, 19)] 10 2 [vR G 1 0, vI a0, vR G 51 0] M (fun r M' => ∃ k, r = .inr (some (vI k)) ∧ (0 ≤ k ∧ k ≤ 3) ∧ F k M') := by
  refine bh_enter (L := [some (vR G 1 0), some (vI a0), some (vR G 51 0), none]) (by decide) rfl rfl ?_
  refine wg_aload_n eL_slotAt_0 rfl ?_
  refine wg_iconst eL_slotAt_1 ?_
  refine wg_aload_n eL_slotAt_2 rfl ?_
  refine wg_iload_n eL_slotAt_3 rfl ?_
  refine bg_callVH (k := 1) (j := 0) (ci := 8) (n := 1) (As := [vI a0]) (st := [vI 0, vR G 51 0]) eL_slotAt_4 mw_1038 mw_1039 mw_1040 mw_105 mw_1041 ⟨rfl, by decide, by decide, by decide +kernel⟩ rfl rfl (by decide) rfl (by decide) ⟨by decide, by decide⟩ ⟨by decide, by decide⟩ rfl (bc_mono h (fun r M1 hr => ?_))
  cases r with
  | inl E =>
    obtain ⟨k, hk, hF⟩ := hr
    simp only [csA, List.mem_cons, Prod.mk.injEq, List.not_mem_nil, or_false] at hk
    rcases hk with ⟨rfl, rfl⟩ | ⟨rfl, rfl⟩
    · refine ⟨12, ⟨[], (0, 9, 12, 13), [(0, 9, 15, 19)], rfl, fun _ q => absurd q List.not_mem_nil, ⟨by decide, by decide, mw_680, by decide⟩, rfl⟩, fun q => ?_⟩
      refine wg_astore_nx eL_slotAt_12 rfl ?_
      refine wg_iconst eL_slotAt_13 ?_
      exact wg_ireturn eL_slotAt_14 ⟨_, rfl, by decide, hF⟩
    · refine ⟨15, ⟨[(0, 9, 12, 13)], (0, 9, 15, 19), [], rfl, List.forall_mem_cons.mpr ⟨⟨by decide, _, mw_680, by decide⟩, fun _ q => absurd q List.not_mem_nil⟩, ⟨by decide, by decide, mw_759, by decide⟩, rfl⟩, fun q => ?_⟩
      refine wg_astore_nx eL_slotAt_15 rfl ?_
      refine wg_iconst eL_slotAt_16 ?_
      exact wg_ireturn eL_slotAt_17 ⟨_, rfl, by decide, hF⟩
  | inr w =>
    obtain ⟨x, rfl, hF⟩ := hr
    refine wg_i2l eL_slotAt_7 ?_
    refine bg_last (k := 51) (n := 1) (j := 0) (i := 0) eL_slotAt_8 (fun _ => rfl) (by decide) (by decide) (by decide) ?_
    refine wg_goto eL_slotAt_9 ?_
    refine wg_iconst eL_slotAt_18 ?_
    exact wg_ireturn eL_slotAt_19 ⟨_, rfl, by decide, hF⟩
theorem hp_occurrences {G : bc_G} {M : bc_M} {a0 : Int} {F : Int → bc_M → Prop} (h : bc_Call G yX8_occurrences cX8_occurrences 2 (some .int) 9 2 [vR G 1 0, vI a0] M (AFI csA F)) : bh_Call G yL_occurrences cL_occurrences 4 (some .int) [(0, 9, 12, 13), (0, 9, 15, 19)] 10 2 [vR G 1 0, vI a0, vR G 51 0] M (fun r M' => ∃ k, r = .inr (some (vI k)) ∧ (0 ≤ k ∧ k ≤ 3) ∧ F k M') := by
  refine bh_enter (L := [some (vR G 1 0), some (vI a0), some (vR G 51 0), none]) (by decide) rfl rfl ?_
  refine wg_aload_n eL_occurrences_0 rfl ?_
  refine wg_iconst eL_occurrences_1 ?_
  refine wg_aload_n eL_occurrences_2 rfl ?_
  refine wg_iload_n eL_occurrences_3 rfl ?_
  refine bg_callVH (k := 1) (j := 0) (ci := 8) (n := 1) (As := [vI a0]) (st := [vI 0, vR G 51 0]) eL_occurrences_4 mw_1050 mw_1051 mw_1052 mw_105 mw_1053 ⟨rfl, by decide, by decide, by decide +kernel⟩ rfl rfl (by decide) rfl (by decide) ⟨by decide, by decide⟩ ⟨by decide, by decide⟩ rfl (bc_mono h (fun r M1 hr => ?_))
  cases r with
  | inl E =>
    obtain ⟨k, hk, hF⟩ := hr
    simp only [csA, List.mem_cons, Prod.mk.injEq, List.not_mem_nil, or_false] at hk
    rcases hk with ⟨rfl, rfl⟩ | ⟨rfl, rfl⟩
    · refine ⟨12, ⟨[], (0, 9, 12, 13), [(0, 9, 15, 19)], rfl, fun _ q => absurd q List.not_mem_nil, ⟨by decide, by decide, mw_680, by decide⟩, rfl⟩, fun q => ?_⟩
      refine wg_astore_nx eL_occurrences_12 rfl ?_
      refine wg_iconst eL_occurrences_13 ?_
      exact wg_ireturn eL_occurrences_14 ⟨_, rfl, by decide, hF⟩
    · refine ⟨15, ⟨[(0, 9, 12, 13)], (0, 9, 15, 19), [], rfl, List.forall_mem_cons.mpr ⟨⟨by decide, _, mw_680, by decide⟩, fun _ q => absurd q List.not_mem_nil⟩, ⟨by decide, by decide, mw_759, by decide⟩, rfl⟩, fun q => ?_⟩
      refine wg_astore_nx eL_occurrences_15 rfl ?_
      refine wg_iconst eL_occurrences_16 ?_
      exact wg_ireturn eL_occurrences_17 ⟨_, rfl, by decide, hF⟩
  | inr w =>
    obtain ⟨x, rfl, hF⟩ := hr
    refine wg_i2l eL_occurrences_7 ?_
    refine bg_last (k := 51) (n := 1) (j := 0) (i := 0) eL_occurrences_8 (fun _ => rfl) (by decide) (by decide) (by decide) ?_
    refine wg_goto eL_occurrences_9 ?_
    refine wg_iconst eL_occurrences_18 ?_
    exact wg_ireturn eL_occurrences_19 ⟨_, rfl, by decide, hF⟩
theorem hp_emptySlots {G : bc_G} {M : bc_M} {F : Int → bc_M → Prop} (h : bc_Call G yX8_emptySlots cX8_emptySlots 3 (some .int) 9 1 [vR G 1 0] M (AFI csS F)) : bh_Call G yL_emptySlots cL_emptySlots 3 (some .int) [(0, 8, 11, 13)] 10 1 [vR G 1 0, vR G 51 0] M (fun r M' => ∃ k, r = .inr (some (vI k)) ∧ (0 ≤ k ∧ k ≤ 3) ∧ F k M') := by
  refine bh_enter (L := [some (vR G 1 0), some (vR G 51 0), none]) (by decide) rfl rfl ?_
  refine wg_aload_n eL_emptySlots_0 rfl ?_
  refine wg_iconst eL_emptySlots_1 ?_
  refine wg_aload_n eL_emptySlots_2 rfl ?_
  refine bg_callVH (k := 1) (j := 0) (ci := 8) (n := 0) (As := []) (st := [vI 0, vR G 51 0]) eL_emptySlots_3 mw_1057 mw_1058 mw_1059 mw_105 mw_1060 ⟨rfl, by decide, by decide, by decide +kernel⟩ rfl rfl (by decide) rfl (by decide) ⟨by decide, by decide⟩ ⟨by decide, by decide⟩ rfl (bc_mono h (fun r M1 hr => ?_))
  cases r with
  | inl E =>
    obtain ⟨k, hk, hF⟩ := hr
    simp only [csS, List.mem_cons, Prod.mk.injEq, List.not_mem_nil, or_false] at hk
    obtain ⟨rfl, rfl⟩ := hk
    refine ⟨11, ⟨[], (0, 8, 11, 13), [], rfl, fun _ q => absurd q List.not_mem_nil, ⟨by decide, by decide, mw_680, by decide⟩, rfl⟩, fun q => ?_⟩
    refine wg_astore_nx eL_emptySlots_11 rfl ?_
    refine wg_iconst eL_emptySlots_12 ?_
    exact wg_ireturn eL_emptySlots_13 ⟨_, rfl, by decide, hF⟩
  | inr w =>
    obtain ⟨x, rfl, hF⟩ := hr
    refine wg_i2l eL_emptySlots_6 ?_
    refine bg_last (k := 51) (n := 1) (j := 0) (i := 0) eL_emptySlots_7 (fun _ => rfl) (by decide) (by decide) (by decide) ?_
    refine wg_goto eL_emptySlots_8 ?_
    refine wg_iconst eL_emptySlots_14 ?_
    exact wg_ireturn eL_emptySlots_15 ⟨_, rfl, by decide, hF⟩
theorem hp_gap {G : bc_G} {M : bc_M} {a0 : Int} {F : Int → bc_M → Prop} (h : bc_Call G yX8_gap cX8_gap 2 (some .int) 9 2 [vR G 1 0, vI a0] M (AFI csA F)) : bh_Call G yL_gap cL_gap 4 (some .int) [(0, 9, 12, 13), (0, 9, 15, 19)] 10 2 [vR G 1 0, vI a0, vR G 51 0] M (fun r M' => ∃ k, r = .inr (some (vI k)) ∧ (0 ≤ k ∧ k ≤ 3) ∧ F k M') := by
  refine bh_enter (L := [some (vR G 1 0), some (vI a0), some (vR G 51 0), none]) (by decide) rfl rfl ?_
  refine wg_aload_n eL_gap_0 rfl ?_
  refine wg_iconst eL_gap_1 ?_
  refine wg_aload_n eL_gap_2 rfl ?_
  refine wg_iload_n eL_gap_3 rfl ?_
  refine bg_callVH (k := 1) (j := 0) (ci := 8) (n := 1) (As := [vI a0]) (st := [vI 0, vR G 51 0]) eL_gap_4 mw_1064 mw_1065 mw_1066 mw_105 mw_1067 ⟨rfl, by decide, by decide, by decide +kernel⟩ rfl rfl (by decide) rfl (by decide) ⟨by decide, by decide⟩ ⟨by decide, by decide⟩ rfl (bc_mono h (fun r M1 hr => ?_))
  cases r with
  | inl E =>
    obtain ⟨k, hk, hF⟩ := hr
    simp only [csA, List.mem_cons, Prod.mk.injEq, List.not_mem_nil, or_false] at hk
    rcases hk with ⟨rfl, rfl⟩ | ⟨rfl, rfl⟩
    · refine ⟨12, ⟨[], (0, 9, 12, 13), [(0, 9, 15, 19)], rfl, fun _ q => absurd q List.not_mem_nil, ⟨by decide, by decide, mw_680, by decide⟩, rfl⟩, fun q => ?_⟩
      refine wg_astore_nx eL_gap_12 rfl ?_
      refine wg_iconst eL_gap_13 ?_
      exact wg_ireturn eL_gap_14 ⟨_, rfl, by decide, hF⟩
    · refine ⟨15, ⟨[(0, 9, 12, 13)], (0, 9, 15, 19), [], rfl, List.forall_mem_cons.mpr ⟨⟨by decide, _, mw_680, by decide⟩, fun _ q => absurd q List.not_mem_nil⟩, ⟨by decide, by decide, mw_759, by decide⟩, rfl⟩, fun q => ?_⟩
      refine wg_astore_nx eL_gap_15 rfl ?_
      refine wg_iconst eL_gap_16 ?_
      exact wg_ireturn eL_gap_17 ⟨_, rfl, by decide, hF⟩
  | inr w =>
    obtain ⟨x, rfl, hF⟩ := hr
    refine wg_i2l eL_gap_7 ?_
    refine bg_last (k := 51) (n := 1) (j := 0) (i := 0) eL_gap_8 (fun _ => rfl) (by decide) (by decide) (by decide) ?_
    refine wg_goto eL_gap_9 ?_
    refine wg_iconst eL_gap_18 ?_
    exact wg_ireturn eL_gap_19 ⟨_, rfl, by decide, hF⟩
theorem hp_violations {G : bc_G} {M : bc_M} {F : Int → bc_M → Prop} (h : bc_Call G yX8_violations cX8_violations 1 (some .int) 9 1 [vR G 1 0] M (AFI csS F)) : bh_Call G yL_violations cL_violations 3 (some .int) [(0, 8, 11, 13)] 10 1 [vR G 1 0, vR G 51 0] M (fun r M' => ∃ k, r = .inr (some (vI k)) ∧ (0 ≤ k ∧ k ≤ 3) ∧ F k M') := by
  refine bh_enter (L := [some (vR G 1 0), some (vR G 51 0), none]) (by decide) rfl rfl ?_
  refine wg_aload_n eL_violations_0 rfl ?_
  refine wg_iconst eL_violations_1 ?_
  refine wg_aload_n eL_violations_2 rfl ?_
  refine bg_callVH (k := 1) (j := 0) (ci := 8) (n := 0) (As := []) (st := [vI 0, vR G 51 0]) eL_violations_3 mw_1072 mw_1073 mw_1074 mw_105 mw_1075 ⟨rfl, by decide, by decide, by decide +kernel⟩ rfl rfl (by decide) rfl (by decide) ⟨by decide, by decide⟩ ⟨by decide, by decide⟩ rfl (bc_mono h (fun r M1 hr => ?_))
  cases r with
  | inl E =>
    obtain ⟨k, hk, hF⟩ := hr
    simp only [csS, List.mem_cons, Prod.mk.injEq, List.not_mem_nil, or_false] at hk
    obtain ⟨rfl, rfl⟩ := hk
    refine ⟨11, ⟨[], (0, 8, 11, 13), [], rfl, fun _ q => absurd q List.not_mem_nil, ⟨by decide, by decide, mw_680, by decide⟩, rfl⟩, fun q => ?_⟩
    refine wg_astore_nx eL_violations_11 rfl ?_
    refine wg_iconst eL_violations_12 ?_
    exact wg_ireturn eL_violations_13 ⟨_, rfl, by decide, hF⟩
  | inr w =>
    obtain ⟨x, rfl, hF⟩ := hr
    refine wg_i2l eL_violations_6 ?_
    refine bg_last (k := 51) (n := 1) (j := 0) (i := 0) eL_violations_7 (fun _ => rfl) (by decide) (by decide) (by decide) ?_
    refine wg_goto eL_violations_8 ?_
    refine wg_iconst eL_violations_14 ?_
    exact wg_ireturn eL_violations_15 ⟨_, rfl, by decide, hF⟩
theorem hp_nextTime {G : bc_G} {M : bc_M} {a0 a1 : Int} {F : Int → bc_M → Prop} (h : bc_Call G yX8_nextTime cX8_nextTime 3 (some .int) 9 3 [vR G 1 0, vI a0, vI a1] M (AFI csA F)) : bh_Call G yL_nextTime cL_nextTime 5 (some .int) [(0, 10, 13, 13), (0, 10, 17, 19)] 10 3 [vR G 1 0, vI a0, vI a1, vR G 51 0] M (fun r M' => ∃ k, r = .inr (some (vI k)) ∧ (0 ≤ k ∧ k ≤ 3) ∧ F k M') := by
  refine bh_enter (L := [some (vR G 1 0), some (vI a0), some (vI a1), some (vR G 51 0), none]) (by decide) rfl rfl ?_
  refine wg_aload_n eL_nextTime_0 rfl ?_
  refine wg_iconst eL_nextTime_1 ?_
  refine wg_aload_n eL_nextTime_2 rfl ?_
  refine wg_iload_n eL_nextTime_3 rfl ?_
  refine wg_iload_n eL_nextTime_4 rfl ?_
  refine bg_callVH (k := 1) (j := 0) (ci := 8) (n := 2) (As := [vI a0, vI a1]) (st := [vI 0, vR G 51 0]) eL_nextTime_5 mw_1079 mw_1080 mw_1081 mw_105 mw_1082 ⟨rfl, by decide, by decide, by decide +kernel⟩ rfl rfl (by decide) rfl (by decide) ⟨by decide, by decide⟩ ⟨by decide, by decide⟩ rfl (bc_mono h (fun r M1 hr => ?_))
  cases r with
  | inl E =>
    obtain ⟨k, hk, hF⟩ := hr
    simp only [csA, List.mem_cons, Prod.mk.injEq, List.not_mem_nil, or_false] at hk
    rcases hk with ⟨rfl, rfl⟩ | ⟨rfl, rfl⟩
    · refine ⟨13, ⟨[], (0, 10, 13, 13), [(0, 10, 17, 19)], rfl, fun _ q => absurd q List.not_mem_nil, ⟨by decide, by decide, mw_680, by decide⟩, rfl⟩, fun q => ?_⟩
      refine wg_astore_x eL_nextTime_13 rfl ?_
      refine wg_iconst eL_nextTime_15 ?_
      exact wg_ireturn eL_nextTime_16 ⟨_, rfl, by decide, hF⟩
    · refine ⟨17, ⟨[(0, 10, 13, 13)], (0, 10, 17, 19), [], rfl, List.forall_mem_cons.mpr ⟨⟨by decide, _, mw_680, by decide⟩, fun _ q => absurd q List.not_mem_nil⟩, ⟨by decide, by decide, mw_759, by decide⟩, rfl⟩, fun q => ?_⟩
      refine wg_astore_x eL_nextTime_17 rfl ?_
      refine wg_iconst eL_nextTime_19 ?_
      exact wg_ireturn eL_nextTime_20 ⟨_, rfl, by decide, hF⟩
  | inr w =>
    obtain ⟨x, rfl, hF⟩ := hr
    refine wg_i2l eL_nextTime_8 ?_
    refine bg_last (k := 51) (n := 1) (j := 0) (i := 0) eL_nextTime_9 (fun _ => rfl) (by decide) (by decide) (by decide) ?_
    refine wg_goto eL_nextTime_10 ?_
    refine wg_iconst eL_nextTime_21 ?_
    exact wg_ireturn eL_nextTime_22 ⟨_, rfl, by decide, hF⟩
theorem hp_share {G : bc_G} {M : bc_M} {a0 : Int} {F : Int → bc_M → Prop} (h : bc_Call G yX8_share cX8_share 2 (some .double) 9 2 [vR G 1 0, vI a0] M (AFD csA F)) : bh_Call G yL_share cL_share 4 (some .int) [(0, 8, 11, 13), (0, 8, 14, 19)] 10 2 [vR G 1 0, vI a0, vR G 52 0] M (fun r M' => ∃ k, r = .inr (some (vI k)) ∧ (0 ≤ k ∧ k ≤ 3) ∧ F k M') := by
  refine bh_enter (L := [some (vR G 1 0), some (vI a0), some (vR G 52 0), none]) (by decide) rfl rfl ?_
  refine wg_aload_n eL_share_0 rfl ?_
  refine wg_iconst eL_share_1 ?_
  refine wg_aload_n eL_share_2 rfl ?_
  refine wg_iload_n eL_share_3 rfl ?_
  refine bg_callVH (k := 1) (j := 0) (ci := 8) (n := 1) (As := [vI a0]) (st := [vI 0, vR G 52 0]) eL_share_4 mw_1087 mw_1088 mw_1089 mw_105 mw_1090 ⟨rfl, by decide, by decide, by decide +kernel⟩ rfl rfl (by decide) rfl (by decide) ⟨by decide, by decide⟩ ⟨by decide, by decide⟩ rfl (bc_mono h (fun r M1 hr => ?_))
  cases r with
  | inl E =>
    obtain ⟨k, hk, hF⟩ := hr
    simp only [csA, List.mem_cons, Prod.mk.injEq, List.not_mem_nil, or_false] at hk
    rcases hk with ⟨rfl, rfl⟩ | ⟨rfl, rfl⟩
    · refine ⟨11, ⟨[], (0, 8, 11, 13), [(0, 8, 14, 19)], rfl, fun _ q => absurd q List.not_mem_nil, ⟨by decide, by decide, mw_680, by decide⟩, rfl⟩, fun q => ?_⟩
      refine wg_astore_nx eL_share_11 rfl ?_
      refine wg_iconst eL_share_12 ?_
      exact wg_ireturn eL_share_13 ⟨_, rfl, by decide, hF⟩
    · refine ⟨14, ⟨[(0, 8, 11, 13)], (0, 8, 14, 19), [], rfl, List.forall_mem_cons.mpr ⟨⟨by decide, _, mw_680, by decide⟩, fun _ q => absurd q List.not_mem_nil⟩, ⟨by decide, by decide, mw_759, by decide⟩, rfl⟩, fun q => ?_⟩
      refine wg_astore_nx eL_share_14 rfl ?_
      refine wg_iconst eL_share_15 ?_
      exact wg_ireturn eL_share_16 ⟨_, rfl, by decide, hF⟩
  | inr w =>
    obtain ⟨x, rfl, hF⟩ := hr
    refine bg_dast (k := 52) (n := 1) (j := 0) (i := 0) eL_share_7 (fun _ => rfl) (by decide) (by decide) (by decide) ?_
    refine wg_goto eL_share_8 ?_
    refine wg_iconst eL_share_17 ?_
    exact wg_ireturn eL_share_18 ⟨_, rfl, by decide, hF⟩
theorem hp_accessTime {G : bc_G} {M : bc_M} {a0 a1 : Int} {F : Int → bc_M → Prop} (h : bc_Call G yX8_accessTime cX8_accessTime 3 (some .int) 9 3 [vR G 1 0, vI a0, vI a1] M (AFI csA F)) : bh_Call G yL_accessTime cL_accessTime 5 (some .int) [(0, 10, 13, 13), (0, 10, 17, 19)] 10 3 [vR G 1 0, vI a0, vI a1, vR G 51 0] M (fun r M' => ∃ k, r = .inr (some (vI k)) ∧ (0 ≤ k ∧ k ≤ 3) ∧ F k M') := by
  refine bh_enter (L := [some (vR G 1 0), some (vI a0), some (vI a1), some (vR G 51 0), none]) (by decide) rfl rfl ?_
  refine wg_aload_n eL_accessTime_0 rfl ?_
  refine wg_iconst eL_accessTime_1 ?_
  refine wg_aload_n eL_accessTime_2 rfl ?_
  refine wg_iload_n eL_accessTime_3 rfl ?_
  refine wg_iload_n eL_accessTime_4 rfl ?_
  refine bg_callVH (k := 1) (j := 0) (ci := 8) (n := 2) (As := [vI a0, vI a1]) (st := [vI 0, vR G 51 0]) eL_accessTime_5 mw_1098 mw_1099 mw_1100 mw_105 mw_1101 ⟨rfl, by decide, by decide, by decide +kernel⟩ rfl rfl (by decide) rfl (by decide) ⟨by decide, by decide⟩ ⟨by decide, by decide⟩ rfl (bc_mono h (fun r M1 hr => ?_))
  cases r with
  | inl E =>
    obtain ⟨k, hk, hF⟩ := hr
    simp only [csA, List.mem_cons, Prod.mk.injEq, List.not_mem_nil, or_false] at hk
    rcases hk with ⟨rfl, rfl⟩ | ⟨rfl, rfl⟩
    · refine ⟨13, ⟨[], (0, 10, 13, 13), [(0, 10, 17, 19)], rfl, fun _ q => absurd q List.not_mem_nil, ⟨by decide, by decide, mw_680, by decide⟩, rfl⟩, fun q => ?_⟩
      refine wg_astore_x eL_accessTime_13 rfl ?_
      refine wg_iconst eL_accessTime_15 ?_
      exact wg_ireturn eL_accessTime_16 ⟨_, rfl, by decide, hF⟩
    · refine ⟨17, ⟨[(0, 10, 13, 13)], (0, 10, 17, 19), [], rfl, List.forall_mem_cons.mpr ⟨⟨by decide, _, mw_680, by decide⟩, fun _ q => absurd q List.not_mem_nil⟩, ⟨by decide, by decide, mw_759, by decide⟩, rfl⟩, fun q => ?_⟩
      refine wg_astore_x eL_accessTime_17 rfl ?_
      refine wg_iconst eL_accessTime_19 ?_
      exact wg_ireturn eL_accessTime_20 ⟨_, rfl, by decide, hF⟩
  | inr w =>
    obtain ⟨x, rfl, hF⟩ := hr
    refine wg_i2l eL_accessTime_8 ?_
    refine bg_last (k := 51) (n := 1) (j := 0) (i := 0) eL_accessTime_9 (fun _ => rfl) (by decide) (by decide) (by decide) ?_
    refine wg_goto eL_accessTime_10 ?_
    refine wg_iconst eL_accessTime_21 ?_
    exact wg_ireturn eL_accessTime_22 ⟨_, rfl, by decide, hF⟩
theorem hp_tuningTime {G : bc_G} {M : bc_M} {a0 a1 : Int} {F : Int → bc_M → Prop} (h : bc_Call G yX8_tuningTime cX8_tuningTime 3 (some .int) 9 3 [vR G 1 0, vI a0, vI a1] M (AFI csA F)) : bh_Call G yL_tuningTime cL_tuningTime 5 (some .int) [(0, 10, 13, 13), (0, 10, 17, 19)] 10 3 [vR G 1 0, vI a0, vI a1, vR G 51 0] M (fun r M' => ∃ k, r = .inr (some (vI k)) ∧ (0 ≤ k ∧ k ≤ 3) ∧ F k M') := by
  refine bh_enter (L := [some (vR G 1 0), some (vI a0), some (vI a1), some (vR G 51 0), none]) (by decide) rfl rfl ?_
  refine wg_aload_n eL_tuningTime_0 rfl ?_
  refine wg_iconst eL_tuningTime_1 ?_
  refine wg_aload_n eL_tuningTime_2 rfl ?_
  refine wg_iload_n eL_tuningTime_3 rfl ?_
  refine wg_iload_n eL_tuningTime_4 rfl ?_
  refine bg_callVH (k := 1) (j := 0) (ci := 8) (n := 2) (As := [vI a0, vI a1]) (st := [vI 0, vR G 51 0]) eL_tuningTime_5 mw_1106 mw_1107 mw_1108 mw_105 mw_1109 ⟨rfl, by decide, by decide, by decide +kernel⟩ rfl rfl (by decide) rfl (by decide) ⟨by decide, by decide⟩ ⟨by decide, by decide⟩ rfl (bc_mono h (fun r M1 hr => ?_))
  cases r with
  | inl E =>
    obtain ⟨k, hk, hF⟩ := hr
    simp only [csA, List.mem_cons, Prod.mk.injEq, List.not_mem_nil, or_false] at hk
    rcases hk with ⟨rfl, rfl⟩ | ⟨rfl, rfl⟩
    · refine ⟨13, ⟨[], (0, 10, 13, 13), [(0, 10, 17, 19)], rfl, fun _ q => absurd q List.not_mem_nil, ⟨by decide, by decide, mw_680, by decide⟩, rfl⟩, fun q => ?_⟩
      refine wg_astore_x eL_tuningTime_13 rfl ?_
      refine wg_iconst eL_tuningTime_15 ?_
      exact wg_ireturn eL_tuningTime_16 ⟨_, rfl, by decide, hF⟩
    · refine ⟨17, ⟨[(0, 10, 13, 13)], (0, 10, 17, 19), [], rfl, List.forall_mem_cons.mpr ⟨⟨by decide, _, mw_680, by decide⟩, fun _ q => absurd q List.not_mem_nil⟩, ⟨by decide, by decide, mw_759, by decide⟩, rfl⟩, fun q => ?_⟩
      refine wg_astore_x eL_tuningTime_17 rfl ?_
      refine wg_iconst eL_tuningTime_19 ?_
      exact wg_ireturn eL_tuningTime_20 ⟨_, rfl, by decide, hF⟩
  | inr w =>
    obtain ⟨x, rfl, hF⟩ := hr
    refine wg_i2l eL_tuningTime_8 ?_
    refine bg_last (k := 51) (n := 1) (j := 0) (i := 0) eL_tuningTime_9 (fun _ => rfl) (by decide) (by decide) (by decide) ?_
    refine wg_goto eL_tuningTime_10 ?_
    refine wg_iconst eL_tuningTime_21 ?_
    exact wg_ireturn eL_tuningTime_22 ⟨_, rfl, by decide, hF⟩
theorem hp_worstAccess {G : bc_G} {M : bc_M} {a0 : Int} {F : Int → bc_M → Prop} (h : bc_Call G yX8_worstAccess cX8_worstAccess 4 (some .int) 9 2 [vR G 1 0, vI a0] M (AFI csA F)) : bh_Call G yL_worstAccess cL_worstAccess 4 (some .int) [(0, 9, 12, 13), (0, 9, 15, 19)] 10 2 [vR G 1 0, vI a0, vR G 51 0] M (fun r M' => ∃ k, r = .inr (some (vI k)) ∧ (0 ≤ k ∧ k ≤ 3) ∧ F k M') := by
  refine bh_enter (L := [some (vR G 1 0), some (vI a0), some (vR G 51 0), none]) (by decide) rfl rfl ?_
  refine wg_aload_n eL_worstAccess_0 rfl ?_
  refine wg_iconst eL_worstAccess_1 ?_
  refine wg_aload_n eL_worstAccess_2 rfl ?_
  refine wg_iload_n eL_worstAccess_3 rfl ?_
  refine bg_callVH (k := 1) (j := 0) (ci := 8) (n := 1) (As := [vI a0]) (st := [vI 0, vR G 51 0]) eL_worstAccess_4 mw_1114 mw_1115 mw_1116 mw_105 mw_1117 ⟨rfl, by decide, by decide, by decide +kernel⟩ rfl rfl (by decide) rfl (by decide) ⟨by decide, by decide⟩ ⟨by decide, by decide⟩ rfl (bc_mono h (fun r M1 hr => ?_))
  cases r with
  | inl E =>
    obtain ⟨k, hk, hF⟩ := hr
    simp only [csA, List.mem_cons, Prod.mk.injEq, List.not_mem_nil, or_false] at hk
    rcases hk with ⟨rfl, rfl⟩ | ⟨rfl, rfl⟩
    · refine ⟨12, ⟨[], (0, 9, 12, 13), [(0, 9, 15, 19)], rfl, fun _ q => absurd q List.not_mem_nil, ⟨by decide, by decide, mw_680, by decide⟩, rfl⟩, fun q => ?_⟩
      refine wg_astore_nx eL_worstAccess_12 rfl ?_
      refine wg_iconst eL_worstAccess_13 ?_
      exact wg_ireturn eL_worstAccess_14 ⟨_, rfl, by decide, hF⟩
    · refine ⟨15, ⟨[(0, 9, 12, 13)], (0, 9, 15, 19), [], rfl, List.forall_mem_cons.mpr ⟨⟨by decide, _, mw_680, by decide⟩, fun _ q => absurd q List.not_mem_nil⟩, ⟨by decide, by decide, mw_759, by decide⟩, rfl⟩, fun q => ?_⟩
      refine wg_astore_nx eL_worstAccess_15 rfl ?_
      refine wg_iconst eL_worstAccess_16 ?_
      exact wg_ireturn eL_worstAccess_17 ⟨_, rfl, by decide, hF⟩
  | inr w =>
    obtain ⟨x, rfl, hF⟩ := hr
    refine wg_i2l eL_worstAccess_7 ?_
    refine bg_last (k := 51) (n := 1) (j := 0) (i := 0) eL_worstAccess_8 (fun _ => rfl) (by decide) (by decide) (by decide) ?_
    refine wg_goto eL_worstAccess_9 ?_
    refine wg_iconst eL_worstAccess_18 ?_
    exact wg_ireturn eL_worstAccess_19 ⟨_, rfl, by decide, hF⟩
theorem hp_weight {G : bc_G} {M : bc_M} {a0 : Int} {F : Int → bc_M → Prop} (h : bc_Call G yX8_weight cX8_weight 2 (some .long) 9 2 [vR G 1 0, vI a0] M (AFJ csA F)) : bh_Call G yL_weight cL_weight 4 (some .int) [(0, 8, 11, 13), (0, 8, 14, 19)] 10 2 [vR G 1 0, vI a0, vR G 51 0] M (fun r M' => ∃ k, r = .inr (some (vI k)) ∧ (0 ≤ k ∧ k ≤ 3) ∧ F k M') := by
  refine bh_enter (L := [some (vR G 1 0), some (vI a0), some (vR G 51 0), none]) (by decide) rfl rfl ?_
  refine wg_aload_n eL_weight_0 rfl ?_
  refine wg_iconst eL_weight_1 ?_
  refine wg_aload_n eL_weight_2 rfl ?_
  refine wg_iload_n eL_weight_3 rfl ?_
  refine bg_callVH (k := 1) (j := 0) (ci := 8) (n := 1) (As := [vI a0]) (st := [vI 0, vR G 51 0]) eL_weight_4 mw_1122 mw_1123 mw_1124 mw_105 mw_1125 ⟨rfl, by decide, by decide, by decide +kernel⟩ rfl rfl (by decide) rfl (by decide) ⟨by decide, by decide⟩ ⟨by decide, by decide⟩ rfl (bc_mono h (fun r M1 hr => ?_))
  cases r with
  | inl E =>
    obtain ⟨k, hk, hF⟩ := hr
    simp only [csA, List.mem_cons, Prod.mk.injEq, List.not_mem_nil, or_false] at hk
    rcases hk with ⟨rfl, rfl⟩ | ⟨rfl, rfl⟩
    · refine ⟨11, ⟨[], (0, 8, 11, 13), [(0, 8, 14, 19)], rfl, fun _ q => absurd q List.not_mem_nil, ⟨by decide, by decide, mw_680, by decide⟩, rfl⟩, fun q => ?_⟩
      refine wg_astore_nx eL_weight_11 rfl ?_
      refine wg_iconst eL_weight_12 ?_
      exact wg_ireturn eL_weight_13 ⟨_, rfl, by decide, hF⟩
    · refine ⟨14, ⟨[(0, 8, 11, 13)], (0, 8, 14, 19), [], rfl, List.forall_mem_cons.mpr ⟨⟨by decide, _, mw_680, by decide⟩, fun _ q => absurd q List.not_mem_nil⟩, ⟨by decide, by decide, mw_759, by decide⟩, rfl⟩, fun q => ?_⟩
      refine wg_astore_nx eL_weight_14 rfl ?_
      refine wg_iconst eL_weight_15 ?_
      exact wg_ireturn eL_weight_16 ⟨_, rfl, by decide, hF⟩
  | inr w =>
    obtain ⟨x, rfl, hF⟩ := hr
    refine bg_last (k := 51) (n := 1) (j := 0) (i := 0) eL_weight_7 (fun _ => rfl) (by decide) (by decide) (by decide) ?_
    refine wg_goto eL_weight_8 ?_
    refine wg_iconst eL_weight_17 ?_
    exact wg_ireturn eL_weight_18 ⟨_, rfl, by decide, hF⟩
theorem hp_meanAccess {G : bc_G} {M : bc_M} {a0 : Int} {F : Int → bc_M → Prop} (h : bc_Call G yX8_meanAccess cX8_meanAccess 2 (some .double) 9 2 [vR G 1 0, vI a0] M (AFD csA F)) : bh_Call G yL_meanAccess cL_meanAccess 4 (some .int) [(0, 8, 11, 13), (0, 8, 14, 19)] 10 2 [vR G 1 0, vI a0, vR G 52 0] M (fun r M' => ∃ k, r = .inr (some (vI k)) ∧ (0 ≤ k ∧ k ≤ 3) ∧ F k M') := by
  refine bh_enter (L := [some (vR G 1 0), some (vI a0), some (vR G 52 0), none]) (by decide) rfl rfl ?_
  refine wg_aload_n eL_meanAccess_0 rfl ?_
  refine wg_iconst eL_meanAccess_1 ?_
  refine wg_aload_n eL_meanAccess_2 rfl ?_
  refine wg_iload_n eL_meanAccess_3 rfl ?_
  refine bg_callVH (k := 1) (j := 0) (ci := 8) (n := 1) (As := [vI a0]) (st := [vI 0, vR G 52 0]) eL_meanAccess_4 mw_1130 mw_1131 mw_1132 mw_105 mw_1133 ⟨rfl, by decide, by decide, by decide +kernel⟩ rfl rfl (by decide) rfl (by decide) ⟨by decide, by decide⟩ ⟨by decide, by decide⟩ rfl (bc_mono h (fun r M1 hr => ?_))
  cases r with
  | inl E =>
    obtain ⟨k, hk, hF⟩ := hr
    simp only [csA, List.mem_cons, Prod.mk.injEq, List.not_mem_nil, or_false] at hk
    rcases hk with ⟨rfl, rfl⟩ | ⟨rfl, rfl⟩
    · refine ⟨11, ⟨[], (0, 8, 11, 13), [(0, 8, 14, 19)], rfl, fun _ q => absurd q List.not_mem_nil, ⟨by decide, by decide, mw_680, by decide⟩, rfl⟩, fun q => ?_⟩
      refine wg_astore_nx eL_meanAccess_11 rfl ?_
      refine wg_iconst eL_meanAccess_12 ?_
      exact wg_ireturn eL_meanAccess_13 ⟨_, rfl, by decide, hF⟩
    · refine ⟨14, ⟨[(0, 8, 11, 13)], (0, 8, 14, 19), [], rfl, List.forall_mem_cons.mpr ⟨⟨by decide, _, mw_680, by decide⟩, fun _ q => absurd q List.not_mem_nil⟩, ⟨by decide, by decide, mw_759, by decide⟩, rfl⟩, fun q => ?_⟩
      refine wg_astore_nx eL_meanAccess_14 rfl ?_
      refine wg_iconst eL_meanAccess_15 ?_
      exact wg_ireturn eL_meanAccess_16 ⟨_, rfl, by decide, hF⟩
  | inr w =>
    obtain ⟨x, rfl, hF⟩ := hr
    refine bg_dast (k := 52) (n := 1) (j := 0) (i := 0) eL_meanAccess_7 (fun _ => rfl) (by decide) (by decide) (by decide) ?_
    refine wg_goto eL_meanAccess_8 ?_
    refine wg_iconst eL_meanAccess_17 ?_
    exact wg_ireturn eL_meanAccess_18 ⟨_, rfl, by decide, hF⟩
theorem hp_bestSegments {G : bc_G} {M : bc_M} {a0 : Int} {F : Int → bc_M → Prop} (h : bc_Call G yX8_bestSegments cX8_bestSegments 9 (some .int) 9 2 [vR G 1 0, vI a0] M (AFI csA F)) : bh_Call G yL_bestSegments cL_bestSegments 4 (some .int) [(0, 9, 12, 13), (0, 9, 15, 19)] 10 2 [vR G 1 0, vI a0, vR G 51 0] M (fun r M' => ∃ k, r = .inr (some (vI k)) ∧ (0 ≤ k ∧ k ≤ 3) ∧ F k M') := by
  refine bh_enter (L := [some (vR G 1 0), some (vI a0), some (vR G 51 0), none]) (by decide) rfl rfl ?_
  refine wg_aload_n eL_bestSegments_0 rfl ?_
  refine wg_iconst eL_bestSegments_1 ?_
  refine wg_aload_n eL_bestSegments_2 rfl ?_
  refine wg_iload_n eL_bestSegments_3 rfl ?_
  refine bg_callVH (k := 1) (j := 0) (ci := 8) (n := 1) (As := [vI a0]) (st := [vI 0, vR G 51 0]) eL_bestSegments_4 mw_1138 mw_1139 mw_1140 mw_105 mw_1141 ⟨rfl, by decide, by decide, by decide +kernel⟩ rfl rfl (by decide) rfl (by decide) ⟨by decide, by decide⟩ ⟨by decide, by decide⟩ rfl (bc_mono h (fun r M1 hr => ?_))
  cases r with
  | inl E =>
    obtain ⟨k, hk, hF⟩ := hr
    simp only [csA, List.mem_cons, Prod.mk.injEq, List.not_mem_nil, or_false] at hk
    rcases hk with ⟨rfl, rfl⟩ | ⟨rfl, rfl⟩
    · refine ⟨12, ⟨[], (0, 9, 12, 13), [(0, 9, 15, 19)], rfl, fun _ q => absurd q List.not_mem_nil, ⟨by decide, by decide, mw_680, by decide⟩, rfl⟩, fun q => ?_⟩
      refine wg_astore_nx eL_bestSegments_12 rfl ?_
      refine wg_iconst eL_bestSegments_13 ?_
      exact wg_ireturn eL_bestSegments_14 ⟨_, rfl, by decide, hF⟩
    · refine ⟨15, ⟨[(0, 9, 12, 13)], (0, 9, 15, 19), [], rfl, List.forall_mem_cons.mpr ⟨⟨by decide, _, mw_680, by decide⟩, fun _ q => absurd q List.not_mem_nil⟩, ⟨by decide, by decide, mw_759, by decide⟩, rfl⟩, fun q => ?_⟩
      refine wg_astore_nx eL_bestSegments_15 rfl ?_
      refine wg_iconst eL_bestSegments_16 ?_
      exact wg_ireturn eL_bestSegments_17 ⟨_, rfl, by decide, hF⟩
  | inr w =>
    obtain ⟨x, rfl, hF⟩ := hr
    refine wg_i2l eL_bestSegments_7 ?_
    refine bg_last (k := 51) (n := 1) (j := 0) (i := 0) eL_bestSegments_8 (fun _ => rfl) (by decide) (by decide) (by decide) ?_
    refine wg_goto eL_bestSegments_9 ?_
    refine wg_iconst eL_bestSegments_18 ?_
    exact wg_ireturn eL_bestSegments_19 ⟨_, rfl, by decide, hF⟩
theorem hp_worstTime {G : bc_G} {M : bc_M} {a0 : Int} {F : Int → bc_M → Prop} (h : bc_Call G yX8_worstTime cX8_worstTime 6 (some .int) 9 3 [vR G 1 0, vI a0] M (AFI csA F)) : bh_Call G yL_worstTime cL_worstTime 4 (some .int) [(0, 9, 12, 13), (0, 9, 15, 19)] 10 3 [vR G 1 0, vI a0, vR G 51 0] M (fun r M' => ∃ k, r = .inr (some (vI k)) ∧ (0 ≤ k ∧ k ≤ 3) ∧ F k M') := by
  refine bh_enter (L := [some (vR G 1 0), some (vI a0), some (vR G 51 0), none]) (by decide) rfl rfl ?_
  refine wg_aload_n eL_worstTime_0 rfl ?_
  refine wg_iconst eL_worstTime_1 ?_
  refine wg_aload_n eL_worstTime_2 rfl ?_
  refine wg_iload_n eL_worstTime_3 rfl ?_
  refine bg_callVH (k := 1) (j := 0) (ci := 8) (n := 1) (As := [vI a0]) (st := [vI 0, vR G 51 0]) eL_worstTime_4 mw_1145 mw_1146 mw_1147 mw_105 mw_1148 ⟨rfl, by decide, by decide, by decide +kernel⟩ rfl rfl (by decide) rfl (by decide) ⟨by decide, by decide⟩ ⟨by decide, by decide⟩ rfl (bc_mono h (fun r M1 hr => ?_))
  cases r with
  | inl E =>
    obtain ⟨k, hk, hF⟩ := hr
    simp only [csA, List.mem_cons, Prod.mk.injEq, List.not_mem_nil, or_false] at hk
    rcases hk with ⟨rfl, rfl⟩ | ⟨rfl, rfl⟩
    · refine ⟨12, ⟨[], (0, 9, 12, 13), [(0, 9, 15, 19)], rfl, fun _ q => absurd q List.not_mem_nil, ⟨by decide, by decide, mw_680, by decide⟩, rfl⟩, fun q => ?_⟩
      refine wg_astore_nx eL_worstTime_12 rfl ?_
      refine wg_iconst eL_worstTime_13 ?_
      exact wg_ireturn eL_worstTime_14 ⟨_, rfl, by decide, hF⟩
    · refine ⟨15, ⟨[(0, 9, 12, 13)], (0, 9, 15, 19), [], rfl, List.forall_mem_cons.mpr ⟨⟨by decide, _, mw_680, by decide⟩, fun _ q => absurd q List.not_mem_nil⟩, ⟨by decide, by decide, mw_759, by decide⟩, rfl⟩, fun q => ?_⟩
      refine wg_astore_nx eL_worstTime_15 rfl ?_
      refine wg_iconst eL_worstTime_16 ?_
      exact wg_ireturn eL_worstTime_17 ⟨_, rfl, by decide, hF⟩
  | inr w =>
    obtain ⟨x, rfl, hF⟩ := hr
    refine wg_i2l eL_worstTime_7 ?_
    refine bg_last (k := 51) (n := 1) (j := 0) (i := 0) eL_worstTime_8 (fun _ => rfl) (by decide) (by decide) (by decide) ?_
    refine wg_goto eL_worstTime_9 ?_
    refine wg_iconst eL_worstTime_18 ?_
    exact wg_ireturn eL_worstTime_19 ⟨_, rfl, by decide, hF⟩
theorem hp_leastWorth {G : bc_G} {M : bc_M} {F : Int → bc_M → Prop} (h : bc_Call G yX8_leastWorth cX8_leastWorth 4 (some .int) 9 1 [vR G 1 0] M (AFI csS F)) : bh_Call G yL_leastWorth cL_leastWorth 3 (some .int) [(0, 8, 11, 13)] 10 1 [vR G 1 0, vR G 51 0] M (fun r M' => ∃ k, r = .inr (some (vI k)) ∧ (0 ≤ k ∧ k ≤ 3) ∧ F k M') := by
  refine bh_enter (L := [some (vR G 1 0), some (vR G 51 0), none]) (by decide) rfl rfl ?_
  refine wg_aload_n eL_leastWorth_0 rfl ?_
  refine wg_iconst eL_leastWorth_1 ?_
  refine wg_aload_n eL_leastWorth_2 rfl ?_
  refine bg_callVH (k := 1) (j := 0) (ci := 8) (n := 0) (As := []) (st := [vI 0, vR G 51 0]) eL_leastWorth_3 mw_1161 mw_1162 mw_1163 mw_105 mw_1164 ⟨rfl, by decide, by decide, by decide +kernel⟩ rfl rfl (by decide) rfl (by decide) ⟨by decide, by decide⟩ ⟨by decide, by decide⟩ rfl (bc_mono h (fun r M1 hr => ?_))
  cases r with
  | inl E =>
    obtain ⟨k, hk, hF⟩ := hr
    simp only [csS, List.mem_cons, Prod.mk.injEq, List.not_mem_nil, or_false] at hk
    obtain ⟨rfl, rfl⟩ := hk
    refine ⟨11, ⟨[], (0, 8, 11, 13), [], rfl, fun _ q => absurd q List.not_mem_nil, ⟨by decide, by decide, mw_680, by decide⟩, rfl⟩, fun q => ?_⟩
    refine wg_astore_nx eL_leastWorth_11 rfl ?_
    refine wg_iconst eL_leastWorth_12 ?_
    exact wg_ireturn eL_leastWorth_13 ⟨_, rfl, by decide, hF⟩
  | inr w =>
    obtain ⟨x, rfl, hF⟩ := hr
    refine wg_i2l eL_leastWorth_6 ?_
    refine bg_last (k := 51) (n := 1) (j := 0) (i := 0) eL_leastWorth_7 (fun _ => rfl) (by decide) (by decide) (by decide) ?_
    refine wg_goto eL_leastWorth_8 ?_
    refine wg_iconst eL_leastWorth_14 ?_
    exact wg_ireturn eL_leastWorth_15 ⟨_, rfl, by decide, hF⟩
theorem hp_itemRank {G : bc_G} {M : bc_M} {a0 : Int} {F : Int → bc_M → Prop} (h : bc_Call G yX8_itemRank cX8_itemRank 2 (some .int) 9 3 [vR G 1 0, vI a0] M (AFI csN F)) : bh_Call G yL_itemRank cL_itemRank 4 (some .int) [(0, 9, 12, 13), (0, 9, 15, 19), (0, 9, 18, 112)] 10 3 [vR G 1 0, vI a0, vR G 51 0] M (fun r M' => ∃ k, r = .inr (some (vI k)) ∧ (0 ≤ k ∧ k ≤ 3) ∧ F k M') := by
  refine bh_enter (L := [some (vR G 1 0), some (vI a0), some (vR G 51 0), none]) (by decide) rfl rfl ?_
  refine wg_aload_n eL_itemRank_0 rfl ?_
  refine wg_iconst eL_itemRank_1 ?_
  refine wg_aload_n eL_itemRank_2 rfl ?_
  refine wg_iload_n eL_itemRank_3 rfl ?_
  refine bg_callVH (k := 1) (j := 0) (ci := 8) (n := 1) (As := [vI a0]) (st := [vI 0, vR G 51 0]) eL_itemRank_4 mw_1169 mw_1170 mw_1171 mw_105 mw_1172 ⟨rfl, by decide, by decide, by decide +kernel⟩ rfl rfl (by decide) rfl (by decide) ⟨by decide, by decide⟩ ⟨by decide, by decide⟩ rfl (bc_mono h (fun r M1 hr => ?_))
  cases r with
  | inl E =>
    obtain ⟨k, hk, hF⟩ := hr
    simp only [csN, List.mem_cons, Prod.mk.injEq, List.not_mem_nil, or_false] at hk
    rcases hk with ⟨rfl, rfl⟩ | ⟨rfl, rfl⟩ | ⟨rfl, rfl⟩
    · refine ⟨12, ⟨[], (0, 9, 12, 13), [(0, 9, 15, 19), (0, 9, 18, 112)], rfl, fun _ q => absurd q List.not_mem_nil, ⟨by decide, by decide, mw_680, by decide⟩, rfl⟩, fun q => ?_⟩
      refine wg_astore_nx eL_itemRank_12 rfl ?_
      refine wg_iconst eL_itemRank_13 ?_
      exact wg_ireturn eL_itemRank_14 ⟨_, rfl, by decide, hF⟩
    · refine ⟨15, ⟨[(0, 9, 12, 13)], (0, 9, 15, 19), [(0, 9, 18, 112)], rfl, List.forall_mem_cons.mpr ⟨⟨by decide, _, mw_680, by decide⟩, fun _ q => absurd q List.not_mem_nil⟩, ⟨by decide, by decide, mw_759, by decide⟩, rfl⟩, fun q => ?_⟩
      refine wg_astore_nx eL_itemRank_15 rfl ?_
      refine wg_iconst eL_itemRank_16 ?_
      exact wg_ireturn eL_itemRank_17 ⟨_, rfl, by decide, hF⟩
    · refine ⟨18, ⟨[(0, 9, 12, 13), (0, 9, 15, 19)], (0, 9, 18, 112), [], rfl, List.forall_mem_cons.mpr ⟨⟨by decide, _, mw_680, by decide⟩, List.forall_mem_cons.mpr ⟨⟨by decide, _, mw_759, by decide⟩, fun _ q => absurd q List.not_mem_nil⟩⟩, ⟨by decide, by decide, mw_1168, by decide⟩, rfl⟩, fun q => ?_⟩
      refine wg_astore_nx eL_itemRank_18 rfl ?_
      refine wg_iconst eL_itemRank_19 ?_
      exact wg_ireturn eL_itemRank_20 ⟨_, rfl, by decide, hF⟩
  | inr w =>
    obtain ⟨x, rfl, hF⟩ := hr
    refine wg_i2l eL_itemRank_7 ?_
    refine bg_last (k := 51) (n := 1) (j := 0) (i := 0) eL_itemRank_8 (fun _ => rfl) (by decide) (by decide) (by decide) ?_
    refine wg_goto eL_itemRank_9 ?_
    refine wg_iconst eL_itemRank_21 ?_
    exact wg_ireturn eL_itemRank_22 ⟨_, rfl, by decide, hF⟩
theorem hp_diskRank {G : bc_G} {M : bc_M} {a0 : Int} {F : Int → bc_M → Prop} (h : bc_Call G yX8_diskRank cX8_diskRank 2 (some .int) 9 3 [vR G 1 0, vI a0] M (AFI csN F)) : bh_Call G yL_diskRank cL_diskRank 4 (some .int) [(0, 9, 12, 13), (0, 9, 15, 19), (0, 9, 18, 112)] 10 3 [vR G 1 0, vI a0, vR G 51 0] M (fun r M' => ∃ k, r = .inr (some (vI k)) ∧ (0 ≤ k ∧ k ≤ 3) ∧ F k M') := by
  refine bh_enter (L := [some (vR G 1 0), some (vI a0), some (vR G 51 0), none]) (by decide) rfl rfl ?_
  refine wg_aload_n eL_diskRank_0 rfl ?_
  refine wg_iconst eL_diskRank_1 ?_
  refine wg_aload_n eL_diskRank_2 rfl ?_
  refine wg_iload_n eL_diskRank_3 rfl ?_
  refine bg_callVH (k := 1) (j := 0) (ci := 8) (n := 1) (As := [vI a0]) (st := [vI 0, vR G 51 0]) eL_diskRank_4 mw_1200 mw_1201 mw_1202 mw_105 mw_1203 ⟨rfl, by decide, by decide, by decide +kernel⟩ rfl rfl (by decide) rfl (by decide) ⟨by decide, by decide⟩ ⟨by decide, by decide⟩ rfl (bc_mono h (fun r M1 hr => ?_))
  cases r with
  | inl E =>
    obtain ⟨k, hk, hF⟩ := hr
    simp only [csN, List.mem_cons, Prod.mk.injEq, List.not_mem_nil, or_false] at hk
    rcases hk with ⟨rfl, rfl⟩ | ⟨rfl, rfl⟩ | ⟨rfl, rfl⟩
    · refine ⟨12, ⟨[], (0, 9, 12, 13), [(0, 9, 15, 19), (0, 9, 18, 112)], rfl, fun _ q => absurd q List.not_mem_nil, ⟨by decide, by decide, mw_680, by decide⟩, rfl⟩, fun q => ?_⟩
      refine wg_astore_nx eL_diskRank_12 rfl ?_
      refine wg_iconst eL_diskRank_13 ?_
      exact wg_ireturn eL_diskRank_14 ⟨_, rfl, by decide, hF⟩
    · refine ⟨15, ⟨[(0, 9, 12, 13)], (0, 9, 15, 19), [(0, 9, 18, 112)], rfl, List.forall_mem_cons.mpr ⟨⟨by decide, _, mw_680, by decide⟩, fun _ q => absurd q List.not_mem_nil⟩, ⟨by decide, by decide, mw_759, by decide⟩, rfl⟩, fun q => ?_⟩
      refine wg_astore_nx eL_diskRank_15 rfl ?_
      refine wg_iconst eL_diskRank_16 ?_
      exact wg_ireturn eL_diskRank_17 ⟨_, rfl, by decide, hF⟩
    · refine ⟨18, ⟨[(0, 9, 12, 13), (0, 9, 15, 19)], (0, 9, 18, 112), [], rfl, List.forall_mem_cons.mpr ⟨⟨by decide, _, mw_680, by decide⟩, List.forall_mem_cons.mpr ⟨⟨by decide, _, mw_759, by decide⟩, fun _ q => absurd q List.not_mem_nil⟩⟩, ⟨by decide, by decide, mw_1168, by decide⟩, rfl⟩, fun q => ?_⟩
      refine wg_astore_nx eL_diskRank_18 rfl ?_
      refine wg_iconst eL_diskRank_19 ?_
      exact wg_ireturn eL_diskRank_20 ⟨_, rfl, by decide, hF⟩
  | inr w =>
    obtain ⟨x, rfl, hF⟩ := hr
    refine wg_i2l eL_diskRank_7 ?_
    refine bg_last (k := 51) (n := 1) (j := 0) (i := 0) eL_diskRank_8 (fun _ => rfl) (by decide) (by decide) (by decide) ?_
    refine wg_goto eL_diskRank_9 ?_
    refine wg_iconst eL_diskRank_21 ?_
    exact wg_ireturn eL_diskRank_22 ⟨_, rfl, by decide, hF⟩
theorem hp_tierSize {G : bc_G} {M : bc_M} {a0 a1 : Int} {F : Int → bc_M → Prop} (h : bc_Call G yX8_tierSize cX8_tierSize 3 (some .int) 9 3 [vR G 1 0, vI a0, vI a1] M (AFI csA F)) : bh_Call G yL_tierSize cL_tierSize 5 (some .int) [(0, 10, 13, 13), (0, 10, 17, 19)] 10 3 [vR G 1 0, vI a0, vI a1, vR G 51 0] M (fun r M' => ∃ k, r = .inr (some (vI k)) ∧ (0 ≤ k ∧ k ≤ 3) ∧ F k M') := by
  refine bh_enter (L := [some (vR G 1 0), some (vI a0), some (vI a1), some (vR G 51 0), none]) (by decide) rfl rfl ?_
  refine wg_aload_n eL_tierSize_0 rfl ?_
  refine wg_iconst eL_tierSize_1 ?_
  refine wg_aload_n eL_tierSize_2 rfl ?_
  refine wg_iload_n eL_tierSize_3 rfl ?_
  refine wg_iload_n eL_tierSize_4 rfl ?_
  refine bg_callVH (k := 1) (j := 0) (ci := 8) (n := 2) (As := [vI a0, vI a1]) (st := [vI 0, vR G 51 0]) eL_tierSize_5 mw_1207 mw_1208 mw_1209 mw_105 mw_1210 ⟨rfl, by decide, by decide, by decide +kernel⟩ rfl rfl (by decide) rfl (by decide) ⟨by decide, by decide⟩ ⟨by decide, by decide⟩ rfl (bc_mono h (fun r M1 hr => ?_))
  cases r with
  | inl E =>
    obtain ⟨k, hk, hF⟩ := hr
    simp only [csA, List.mem_cons, Prod.mk.injEq, List.not_mem_nil, or_false] at hk
    rcases hk with ⟨rfl, rfl⟩ | ⟨rfl, rfl⟩
    · refine ⟨13, ⟨[], (0, 10, 13, 13), [(0, 10, 17, 19)], rfl, fun _ q => absurd q List.not_mem_nil, ⟨by decide, by decide, mw_680, by decide⟩, rfl⟩, fun q => ?_⟩
      refine wg_astore_x eL_tierSize_13 rfl ?_
      refine wg_iconst eL_tierSize_15 ?_
      exact wg_ireturn eL_tierSize_16 ⟨_, rfl, by decide, hF⟩
    · refine ⟨17, ⟨[(0, 10, 13, 13)], (0, 10, 17, 19), [], rfl, List.forall_mem_cons.mpr ⟨⟨by decide, _, mw_680, by decide⟩, fun _ q => absurd q List.not_mem_nil⟩, ⟨by decide, by decide, mw_759, by decide⟩, rfl⟩, fun q => ?_⟩
      refine wg_astore_x eL_tierSize_17 rfl ?_
      refine wg_iconst eL_tierSize_19 ?_
      exact wg_ireturn eL_tierSize_20 ⟨_, rfl, by decide, hF⟩
  | inr w =>
    obtain ⟨x, rfl, hF⟩ := hr
    refine wg_i2l eL_tierSize_8 ?_
    refine bg_last (k := 51) (n := 1) (j := 0) (i := 0) eL_tierSize_9 (fun _ => rfl) (by decide) (by decide) (by decide) ?_
    refine wg_goto eL_tierSize_10 ?_
    refine wg_iconst eL_tierSize_21 ?_
    exact wg_ireturn eL_tierSize_22 ⟨_, rfl, by decide, hF⟩
theorem hp_tierWeight {G : bc_G} {M : bc_M} {a0 : Int} {F : Int → bc_M → Prop} (h : bc_Call G yX8_tierWeight cX8_tierWeight 2 (some .long) 9 2 [vR G 1 0, vI a0] M (AFJ csA F)) : bh_Call G yL_tierWeight cL_tierWeight 4 (some .int) [(0, 8, 11, 13), (0, 8, 14, 19)] 10 2 [vR G 1 0, vI a0, vR G 51 0] M (fun r M' => ∃ k, r = .inr (some (vI k)) ∧ (0 ≤ k ∧ k ≤ 3) ∧ F k M') := by
  refine bh_enter (L := [some (vR G 1 0), some (vI a0), some (vR G 51 0), none]) (by decide) rfl rfl ?_
  refine wg_aload_n eL_tierWeight_0 rfl ?_
  refine wg_iconst eL_tierWeight_1 ?_
  refine wg_aload_n eL_tierWeight_2 rfl ?_
  refine wg_iload_n eL_tierWeight_3 rfl ?_
  refine bg_callVH (k := 1) (j := 0) (ci := 8) (n := 1) (As := [vI a0]) (st := [vI 0, vR G 51 0]) eL_tierWeight_4 mw_1214 mw_1215 mw_1216 mw_105 mw_1217 ⟨rfl, by decide, by decide, by decide +kernel⟩ rfl rfl (by decide) rfl (by decide) ⟨by decide, by decide⟩ ⟨by decide, by decide⟩ rfl (bc_mono h (fun r M1 hr => ?_))
  cases r with
  | inl E =>
    obtain ⟨k, hk, hF⟩ := hr
    simp only [csA, List.mem_cons, Prod.mk.injEq, List.not_mem_nil, or_false] at hk
    rcases hk with ⟨rfl, rfl⟩ | ⟨rfl, rfl⟩
    · refine ⟨11, ⟨[], (0, 8, 11, 13), [(0, 8, 14, 19)], rfl, fun _ q => absurd q List.not_mem_nil, ⟨by decide, by decide, mw_680, by decide⟩, rfl⟩, fun q => ?_⟩
      refine wg_astore_nx eL_tierWeight_11 rfl ?_
      refine wg_iconst eL_tierWeight_12 ?_
      exact wg_ireturn eL_tierWeight_13 ⟨_, rfl, by decide, hF⟩
    · refine ⟨14, ⟨[(0, 8, 11, 13)], (0, 8, 14, 19), [], rfl, List.forall_mem_cons.mpr ⟨⟨by decide, _, mw_680, by decide⟩, fun _ q => absurd q List.not_mem_nil⟩, ⟨by decide, by decide, mw_759, by decide⟩, rfl⟩, fun q => ?_⟩
      refine wg_astore_nx eL_tierWeight_14 rfl ?_
      refine wg_iconst eL_tierWeight_15 ?_
      exact wg_ireturn eL_tierWeight_16 ⟨_, rfl, by decide, hF⟩
  | inr w =>
    obtain ⟨x, rfl, hF⟩ := hr
    refine bg_last (k := 51) (n := 1) (j := 0) (i := 0) eL_tierWeight_7 (fun _ => rfl) (by decide) (by decide) (by decide) ?_
    refine wg_goto eL_tierWeight_8 ?_
    refine wg_iconst eL_tierWeight_17 ?_
    exact wg_ireturn eL_tierWeight_18 ⟨_, rfl, by decide, hF⟩
theorem hp_afterRepair {G : bc_G} {M : bc_M} {F : Int → bc_M → Prop} (h : bc_Call G yX8_afterRepair cX8_afterRepair 1 (some .int) 9 1 [vR G 1 0] M (AFI csS F)) : bh_Call G yL_afterRepair cL_afterRepair 3 (some .int) [(0, 8, 11, 13)] 10 1 [vR G 1 0, vR G 51 0] M (fun r M' => ∃ k, r = .inr (some (vI k)) ∧ (0 ≤ k ∧ k ≤ 3) ∧ F k M') := by
  refine bh_enter (L := [some (vR G 1 0), some (vR G 51 0), none]) (by decide) rfl rfl ?_
  refine wg_aload_n eL_afterRepair_0 rfl ?_
  refine wg_iconst eL_afterRepair_1 ?_
  refine wg_aload_n eL_afterRepair_2 rfl ?_
  refine bg_callVH (k := 1) (j := 0) (ci := 8) (n := 0) (As := []) (st := [vI 0, vR G 51 0]) eL_afterRepair_3 mw_1222 mw_1223 mw_1224 mw_105 mw_1225 ⟨rfl, by decide, by decide, by decide +kernel⟩ rfl rfl (by decide) rfl (by decide) ⟨by decide, by decide⟩ ⟨by decide, by decide⟩ rfl (bc_mono h (fun r M1 hr => ?_))
  cases r with
  | inl E =>
    obtain ⟨k, hk, hF⟩ := hr
    simp only [csS, List.mem_cons, Prod.mk.injEq, List.not_mem_nil, or_false] at hk
    obtain ⟨rfl, rfl⟩ := hk
    refine ⟨11, ⟨[], (0, 8, 11, 13), [], rfl, fun _ q => absurd q List.not_mem_nil, ⟨by decide, by decide, mw_680, by decide⟩, rfl⟩, fun q => ?_⟩
    refine wg_astore_nx eL_afterRepair_11 rfl ?_
    refine wg_iconst eL_afterRepair_12 ?_
    exact wg_ireturn eL_afterRepair_13 ⟨_, rfl, by decide, hF⟩
  | inr w =>
    obtain ⟨x, rfl, hF⟩ := hr
    refine wg_i2l eL_afterRepair_6 ?_
    refine bg_last (k := 51) (n := 1) (j := 0) (i := 0) eL_afterRepair_7 (fun _ => rfl) (by decide) (by decide) (by decide) ?_
    refine wg_goto eL_afterRepair_8 ?_
    refine wg_iconst eL_afterRepair_14 ?_
    exact wg_ireturn eL_afterRepair_15 ⟨_, rfl, by decide, hF⟩
theorem hp_bestDisk {G : bc_G} {M : bc_M} {a0 : Int} {F : Int → bc_M → Prop} (h : bc_Call G yX8_bestDisk cX8_bestDisk 6 (some .int) 9 2 [vR G 1 0, vI a0] M (AFI csA F)) : bh_Call G yL_bestDisk cL_bestDisk 4 (some .int) [(0, 9, 12, 13), (0, 9, 15, 19)] 10 2 [vR G 1 0, vI a0, vR G 51 0] M (fun r M' => ∃ k, r = .inr (some (vI k)) ∧ (0 ≤ k ∧ k ≤ 3) ∧ F k M') := by
  refine bh_enter (L := [some (vR G 1 0), some (vI a0), some (vR G 51 0), none]) (by decide) rfl rfl ?_
  refine wg_aload_n eL_bestDisk_0 rfl ?_
  refine wg_iconst eL_bestDisk_1 ?_
  refine wg_aload_n eL_bestDisk_2 rfl ?_
  refine wg_iload_n eL_bestDisk_3 rfl ?_
  refine bg_callVH (k := 1) (j := 0) (ci := 8) (n := 1) (As := [vI a0]) (st := [vI 0, vR G 51 0]) eL_bestDisk_4 mw_1229 mw_1230 mw_1231 mw_105 mw_1232 ⟨rfl, by decide, by decide, by decide +kernel⟩ rfl rfl (by decide) rfl (by decide) ⟨by decide, by decide⟩ ⟨by decide, by decide⟩ rfl (bc_mono h (fun r M1 hr => ?_))
  cases r with
  | inl E =>
    obtain ⟨k, hk, hF⟩ := hr
    simp only [csA, List.mem_cons, Prod.mk.injEq, List.not_mem_nil, or_false] at hk
    rcases hk with ⟨rfl, rfl⟩ | ⟨rfl, rfl⟩
    · refine ⟨12, ⟨[], (0, 9, 12, 13), [(0, 9, 15, 19)], rfl, fun _ q => absurd q List.not_mem_nil, ⟨by decide, by decide, mw_680, by decide⟩, rfl⟩, fun q => ?_⟩
      refine wg_astore_nx eL_bestDisk_12 rfl ?_
      refine wg_iconst eL_bestDisk_13 ?_
      exact wg_ireturn eL_bestDisk_14 ⟨_, rfl, by decide, hF⟩
    · refine ⟨15, ⟨[(0, 9, 12, 13)], (0, 9, 15, 19), [], rfl, List.forall_mem_cons.mpr ⟨⟨by decide, _, mw_680, by decide⟩, fun _ q => absurd q List.not_mem_nil⟩, ⟨by decide, by decide, mw_759, by decide⟩, rfl⟩, fun q => ?_⟩
      refine wg_astore_nx eL_bestDisk_15 rfl ?_
      refine wg_iconst eL_bestDisk_16 ?_
      exact wg_ireturn eL_bestDisk_17 ⟨_, rfl, by decide, hF⟩
  | inr w =>
    obtain ⟨x, rfl, hF⟩ := hr
    refine wg_i2l eL_bestDisk_7 ?_
    refine bg_last (k := 51) (n := 1) (j := 0) (i := 0) eL_bestDisk_8 (fun _ => rfl) (by decide) (by decide) (by decide) ?_
    refine wg_goto eL_bestDisk_9 ?_
    refine wg_iconst eL_bestDisk_18 ?_
    exact wg_ireturn eL_bestDisk_19 ⟨_, rfl, by decide, hF⟩
theorem hp_clientCount {G : bc_G} {M : bc_M} {F : Int → bc_M → Prop} (h : bc_Call G yX8_clientCount cX8_clientCount 1 (some .int) 9 1 [vR G 1 0] M (AFI csS F)) : bh_Call G yL_clientCount cL_clientCount 3 (some .int) [(0, 8, 11, 13)] 10 1 [vR G 1 0, vR G 51 0] M (fun r M' => ∃ k, r = .inr (some (vI k)) ∧ (0 ≤ k ∧ k ≤ 3) ∧ F k M') := by
  refine bh_enter (L := [some (vR G 1 0), some (vR G 51 0), none]) (by decide) rfl rfl ?_
  refine wg_aload_n eL_clientCount_0 rfl ?_
  refine wg_iconst eL_clientCount_1 ?_
  refine wg_aload_n eL_clientCount_2 rfl ?_
  refine bg_callVH (k := 1) (j := 0) (ci := 8) (n := 0) (As := []) (st := [vI 0, vR G 51 0]) eL_clientCount_3 mw_1236 mw_1237 mw_1238 mw_105 mw_1239 ⟨rfl, by decide, by decide, by decide +kernel⟩ rfl rfl (by decide) rfl (by decide) ⟨by decide, by decide⟩ ⟨by decide, by decide⟩ rfl (bc_mono h (fun r M1 hr => ?_))
  cases r with
  | inl E =>
    obtain ⟨k, hk, hF⟩ := hr
    simp only [csS, List.mem_cons, Prod.mk.injEq, List.not_mem_nil, or_false] at hk
    obtain ⟨rfl, rfl⟩ := hk
    refine ⟨11, ⟨[], (0, 8, 11, 13), [], rfl, fun _ q => absurd q List.not_mem_nil, ⟨by decide, by decide, mw_680, by decide⟩, rfl⟩, fun q => ?_⟩
    refine wg_astore_nx eL_clientCount_11 rfl ?_
    refine wg_iconst eL_clientCount_12 ?_
    exact wg_ireturn eL_clientCount_13 ⟨_, rfl, by decide, hF⟩
  | inr w =>
    obtain ⟨x, rfl, hF⟩ := hr
    refine wg_i2l eL_clientCount_6 ?_
    refine bg_last (k := 51) (n := 1) (j := 0) (i := 0) eL_clientCount_7 (fun _ => rfl) (by decide) (by decide) (by decide) ?_
    refine wg_goto eL_clientCount_8 ?_
    refine wg_iconst eL_clientCount_14 ?_
    exact wg_ireturn eL_clientCount_15 ⟨_, rfl, by decide, hF⟩
theorem hp_clientValue {G : bc_G} {M : bc_M} {a0 a1 : Int} {F : Int → bc_M → Prop} (h : bc_Call G yX8_clientValue cX8_clientValue 4 (some .int) 9 3 [vR G 1 0, vI a0, vI a1] M (AFI csA F)) : bh_Call G yL_clientValue cL_clientValue 5 (some .int) [(0, 10, 13, 13), (0, 10, 17, 19)] 10 3 [vR G 1 0, vI a0, vI a1, vR G 51 0] M (fun r M' => ∃ k, r = .inr (some (vI k)) ∧ (0 ≤ k ∧ k ≤ 3) ∧ F k M') := by
  refine bh_enter (L := [some (vR G 1 0), some (vI a0), some (vI a1), some (vR G 51 0), none]) (by decide) rfl rfl ?_
  refine wg_aload_n eL_clientValue_0 rfl ?_
  refine wg_iconst eL_clientValue_1 ?_
  refine wg_aload_n eL_clientValue_2 rfl ?_
  refine wg_iload_n eL_clientValue_3 rfl ?_
  refine wg_iload_n eL_clientValue_4 rfl ?_
  refine bg_callVH (k := 1) (j := 0) (ci := 8) (n := 2) (As := [vI a0, vI a1]) (st := [vI 0, vR G 51 0]) eL_clientValue_5 mw_1243 mw_1244 mw_1245 mw_105 mw_1246 ⟨rfl, by decide, by decide, by decide +kernel⟩ rfl rfl (by decide) rfl (by decide) ⟨by decide, by decide⟩ ⟨by decide, by decide⟩ rfl (bc_mono h (fun r M1 hr => ?_))
  cases r with
  | inl E =>
    obtain ⟨k, hk, hF⟩ := hr
    simp only [csA, List.mem_cons, Prod.mk.injEq, List.not_mem_nil, or_false] at hk
    rcases hk with ⟨rfl, rfl⟩ | ⟨rfl, rfl⟩
    · refine ⟨13, ⟨[], (0, 10, 13, 13), [(0, 10, 17, 19)], rfl, fun _ q => absurd q List.not_mem_nil, ⟨by decide, by decide, mw_680, by decide⟩, rfl⟩, fun q => ?_⟩
      refine wg_astore_x eL_clientValue_13 rfl ?_
      refine wg_iconst eL_clientValue_15 ?_
      exact wg_ireturn eL_clientValue_16 ⟨_, rfl, by decide, hF⟩
    · refine ⟨17, ⟨[(0, 10, 13, 13)], (0, 10, 17, 19), [], rfl, List.forall_mem_cons.mpr ⟨⟨by decide, _, mw_680, by decide⟩, fun _ q => absurd q List.not_mem_nil⟩, ⟨by decide, by decide, mw_759, by decide⟩, rfl⟩, fun q => ?_⟩
      refine wg_astore_x eL_clientValue_17 rfl ?_
      refine wg_iconst eL_clientValue_19 ?_
      exact wg_ireturn eL_clientValue_20 ⟨_, rfl, by decide, hF⟩
  | inr w =>
    obtain ⟨x, rfl, hF⟩ := hr
    refine wg_i2l eL_clientValue_8 ?_
    refine bg_last (k := 51) (n := 1) (j := 0) (i := 0) eL_clientValue_9 (fun _ => rfl) (by decide) (by decide) (by decide) ?_
    refine wg_goto eL_clientValue_10 ?_
    refine wg_iconst eL_clientValue_21 ?_
    exact wg_ireturn eL_clientValue_22 ⟨_, rfl, by decide, hF⟩
theorem hp_cache {G : bc_G} {M : bc_M} {a0 : Int} {F : Int → bc_M → Prop} (h : bc_Call G yX8_cache cX8_cache 2 (some .int) 9 2 [vR G 1 0, vI a0] M (AFI csA F)) : bh_Call G yL_cache cL_cache 4 (some .int) [(0, 9, 12, 13), (0, 9, 15, 19)] 10 2 [vR G 1 0, vI a0, vR G 51 0] M (fun r M' => ∃ k, r = .inr (some (vI k)) ∧ (0 ≤ k ∧ k ≤ 3) ∧ F k M') := by
  refine bh_enter (L := [some (vR G 1 0), some (vI a0), some (vR G 51 0), none]) (by decide) rfl rfl ?_
  refine wg_aload_n eL_cache_0 rfl ?_
  refine wg_iconst eL_cache_1 ?_
  refine wg_aload_n eL_cache_2 rfl ?_
  refine wg_iload_n eL_cache_3 rfl ?_
  refine bg_callVH (k := 1) (j := 0) (ci := 8) (n := 1) (As := [vI a0]) (st := [vI 0, vR G 51 0]) eL_cache_4 mw_1250 mw_1251 mw_1252 mw_105 mw_1253 ⟨rfl, by decide, by decide, by decide +kernel⟩ rfl rfl (by decide) rfl (by decide) ⟨by decide, by decide⟩ ⟨by decide, by decide⟩ rfl (bc_mono h (fun r M1 hr => ?_))
  cases r with
  | inl E =>
    obtain ⟨k, hk, hF⟩ := hr
    simp only [csA, List.mem_cons, Prod.mk.injEq, List.not_mem_nil, or_false] at hk
    rcases hk with ⟨rfl, rfl⟩ | ⟨rfl, rfl⟩
    · refine ⟨12, ⟨[], (0, 9, 12, 13), [(0, 9, 15, 19)], rfl, fun _ q => absurd q List.not_mem_nil, ⟨by decide, by decide, mw_680, by decide⟩, rfl⟩, fun q => ?_⟩
      refine wg_astore_nx eL_cache_12 rfl ?_
      refine wg_iconst eL_cache_13 ?_
      exact wg_ireturn eL_cache_14 ⟨_, rfl, by decide, hF⟩
    · refine ⟨15, ⟨[(0, 9, 12, 13)], (0, 9, 15, 19), [], rfl, List.forall_mem_cons.mpr ⟨⟨by decide, _, mw_680, by decide⟩, fun _ q => absurd q List.not_mem_nil⟩, ⟨by decide, by decide, mw_759, by decide⟩, rfl⟩, fun q => ?_⟩
      refine wg_astore_nx eL_cache_15 rfl ?_
      refine wg_iconst eL_cache_16 ?_
      exact wg_ireturn eL_cache_17 ⟨_, rfl, by decide, hF⟩
  | inr w =>
    obtain ⟨x, rfl, hF⟩ := hr
    refine wg_i2l eL_cache_7 ?_
    refine bg_last (k := 51) (n := 1) (j := 0) (i := 0) eL_cache_8 (fun _ => rfl) (by decide) (by decide) (by decide) ?_
    refine wg_goto eL_cache_9 ?_
    refine wg_iconst eL_cache_18 ?_
    exact wg_ireturn eL_cache_19 ⟨_, rfl, by decide, hF⟩
theorem hp_requests {G : bc_G} {M : bc_M} {a0 a1 : Int} {F : Int → bc_M → Prop} (h : bc_Call G yX8_requests cX8_requests 3 (some .int) 9 3 [vR G 1 0, vI a0, vI a1] M (AFI csA F)) : bh_Call G yL_requests cL_requests 5 (some .int) [(0, 10, 13, 13), (0, 10, 17, 19)] 10 3 [vR G 1 0, vI a0, vI a1, vR G 51 0] M (fun r M' => ∃ k, r = .inr (some (vI k)) ∧ (0 ≤ k ∧ k ≤ 3) ∧ F k M') := by
  refine bh_enter (L := [some (vR G 1 0), some (vI a0), some (vI a1), some (vR G 51 0), none]) (by decide) rfl rfl ?_
  refine wg_aload_n eL_requests_0 rfl ?_
  refine wg_iconst eL_requests_1 ?_
  refine wg_aload_n eL_requests_2 rfl ?_
  refine wg_iload_n eL_requests_3 rfl ?_
  refine wg_iload_n eL_requests_4 rfl ?_
  refine bg_callVH (k := 1) (j := 0) (ci := 8) (n := 2) (As := [vI a0, vI a1]) (st := [vI 0, vR G 51 0]) eL_requests_5 mw_1257 mw_1258 mw_1259 mw_105 mw_1260 ⟨rfl, by decide, by decide, by decide +kernel⟩ rfl rfl (by decide) rfl (by decide) ⟨by decide, by decide⟩ ⟨by decide, by decide⟩ rfl (bc_mono h (fun r M1 hr => ?_))
  cases r with
  | inl E =>
    obtain ⟨k, hk, hF⟩ := hr
    simp only [csA, List.mem_cons, Prod.mk.injEq, List.not_mem_nil, or_false] at hk
    rcases hk with ⟨rfl, rfl⟩ | ⟨rfl, rfl⟩
    · refine ⟨13, ⟨[], (0, 10, 13, 13), [(0, 10, 17, 19)], rfl, fun _ q => absurd q List.not_mem_nil, ⟨by decide, by decide, mw_680, by decide⟩, rfl⟩, fun q => ?_⟩
      refine wg_astore_x eL_requests_13 rfl ?_
      refine wg_iconst eL_requests_15 ?_
      exact wg_ireturn eL_requests_16 ⟨_, rfl, by decide, hF⟩
    · refine ⟨17, ⟨[(0, 10, 13, 13)], (0, 10, 17, 19), [], rfl, List.forall_mem_cons.mpr ⟨⟨by decide, _, mw_680, by decide⟩, fun _ q => absurd q List.not_mem_nil⟩, ⟨by decide, by decide, mw_759, by decide⟩, rfl⟩, fun q => ?_⟩
      refine wg_astore_x eL_requests_17 rfl ?_
      refine wg_iconst eL_requests_19 ?_
      exact wg_ireturn eL_requests_20 ⟨_, rfl, by decide, hF⟩
  | inr w =>
    obtain ⟨x, rfl, hF⟩ := hr
    refine wg_i2l eL_requests_8 ?_
    refine bg_last (k := 51) (n := 1) (j := 0) (i := 0) eL_requests_9 (fun _ => rfl) (by decide) (by decide) (by decide) ?_
    refine wg_goto eL_requests_10 ?_
    refine wg_iconst eL_requests_21 ?_
    exact wg_ireturn eL_requests_22 ⟨_, rfl, by decide, hF⟩
theorem hp_victim {G : bc_G} {M : bc_M} {a0 a1 : Int} {F : Int → bc_M → Prop} (h : bc_Call G yX8_victim cX8_victim 3 (some .int) 9 3 [vR G 1 0, vI a0, vI a1] M (AFI csA F)) : bh_Call G yL_victim cL_victim 5 (some .int) [(0, 10, 13, 13), (0, 10, 17, 19)] 10 3 [vR G 1 0, vI a0, vI a1, vR G 51 0] M (fun r M' => ∃ k, r = .inr (some (vI k)) ∧ (0 ≤ k ∧ k ≤ 3) ∧ F k M') := by
  refine bh_enter (L := [some (vR G 1 0), some (vI a0), some (vI a1), some (vR G 51 0), none]) (by decide) rfl rfl ?_
  refine wg_aload_n eL_victim_0 rfl ?_
  refine wg_iconst eL_victim_1 ?_
  refine wg_aload_n eL_victim_2 rfl ?_
  refine wg_iload_n eL_victim_3 rfl ?_
  refine wg_iload_n eL_victim_4 rfl ?_
  refine bg_callVH (k := 1) (j := 0) (ci := 8) (n := 2) (As := [vI a0, vI a1]) (st := [vI 0, vR G 51 0]) eL_victim_5 mw_1264 mw_1265 mw_1266 mw_105 mw_1267 ⟨rfl, by decide, by decide, by decide +kernel⟩ rfl rfl (by decide) rfl (by decide) ⟨by decide, by decide⟩ ⟨by decide, by decide⟩ rfl (bc_mono h (fun r M1 hr => ?_))
  cases r with
  | inl E =>
    obtain ⟨k, hk, hF⟩ := hr
    simp only [csA, List.mem_cons, Prod.mk.injEq, List.not_mem_nil, or_false] at hk
    rcases hk with ⟨rfl, rfl⟩ | ⟨rfl, rfl⟩
    · refine ⟨13, ⟨[], (0, 10, 13, 13), [(0, 10, 17, 19)], rfl, fun _ q => absurd q List.not_mem_nil, ⟨by decide, by decide, mw_680, by decide⟩, rfl⟩, fun q => ?_⟩
      refine wg_astore_x eL_victim_13 rfl ?_
      refine wg_iconst eL_victim_15 ?_
      exact wg_ireturn eL_victim_16 ⟨_, rfl, by decide, hF⟩
    · refine ⟨17, ⟨[(0, 10, 13, 13)], (0, 10, 17, 19), [], rfl, List.forall_mem_cons.mpr ⟨⟨by decide, _, mw_680, by decide⟩, fun _ q => absurd q List.not_mem_nil⟩, ⟨by decide, by decide, mw_759, by decide⟩, rfl⟩, fun q => ?_⟩
      refine wg_astore_x eL_victim_17 rfl ?_
      refine wg_iconst eL_victim_19 ?_
      exact wg_ireturn eL_victim_20 ⟨_, rfl, by decide, hF⟩
  | inr w =>
    obtain ⟨x, rfl, hF⟩ := hr
    refine wg_i2l eL_victim_8 ?_
    refine bg_last (k := 51) (n := 1) (j := 0) (i := 0) eL_victim_9 (fun _ => rfl) (by decide) (by decide) (by decide) ?_
    refine wg_goto eL_victim_10 ?_
    refine wg_iconst eL_victim_21 ?_
    exact wg_ireturn eL_victim_22 ⟨_, rfl, by decide, hF⟩
theorem hp_soonest {G : bc_G} {M : bc_M} {a0 a1 : Int} {F : Int → bc_M → Prop} (h : bc_Call G yX8_soonest cX8_soonest 5 (some .int) 9 4 [vR G 1 0, vI a0, vI a1] M (AFI csA F)) : bh_Call G yL_soonest cL_soonest 5 (some .int) [(0, 10, 13, 13), (0, 10, 17, 19)] 10 4 [vR G 1 0, vI a0, vI a1, vR G 51 0] M (fun r M' => ∃ k, r = .inr (some (vI k)) ∧ (0 ≤ k ∧ k ≤ 3) ∧ F k M') := by
  refine bh_enter (L := [some (vR G 1 0), some (vI a0), some (vI a1), some (vR G 51 0), none]) (by decide) rfl rfl ?_
  refine wg_aload_n eL_soonest_0 rfl ?_
  refine wg_iconst eL_soonest_1 ?_
  refine wg_aload_n eL_soonest_2 rfl ?_
  refine wg_iload_n eL_soonest_3 rfl ?_
  refine wg_iload_n eL_soonest_4 rfl ?_
  refine bg_callVH (k := 1) (j := 0) (ci := 8) (n := 2) (As := [vI a0, vI a1]) (st := [vI 0, vR G 51 0]) eL_soonest_5 mw_1274 mw_1275 mw_1276 mw_105 mw_1277 ⟨rfl, by decide, by decide, by decide +kernel⟩ rfl rfl (by decide) rfl (by decide) ⟨by decide, by decide⟩ ⟨by decide, by decide⟩ rfl (bc_mono h (fun r M1 hr => ?_))
  cases r with
  | inl E =>
    obtain ⟨k, hk, hF⟩ := hr
    simp only [csA, List.mem_cons, Prod.mk.injEq, List.not_mem_nil, or_false] at hk
    rcases hk with ⟨rfl, rfl⟩ | ⟨rfl, rfl⟩
    · refine ⟨13, ⟨[], (0, 10, 13, 13), [(0, 10, 17, 19)], rfl, fun _ q => absurd q List.not_mem_nil, ⟨by decide, by decide, mw_680, by decide⟩, rfl⟩, fun q => ?_⟩
      refine wg_astore_x eL_soonest_13 rfl ?_
      refine wg_iconst eL_soonest_15 ?_
      exact wg_ireturn eL_soonest_16 ⟨_, rfl, by decide, hF⟩
    · refine ⟨17, ⟨[(0, 10, 13, 13)], (0, 10, 17, 19), [], rfl, List.forall_mem_cons.mpr ⟨⟨by decide, _, mw_680, by decide⟩, fun _ q => absurd q List.not_mem_nil⟩, ⟨by decide, by decide, mw_759, by decide⟩, rfl⟩, fun q => ?_⟩
      refine wg_astore_x eL_soonest_17 rfl ?_
      refine wg_iconst eL_soonest_19 ?_
      exact wg_ireturn eL_soonest_20 ⟨_, rfl, by decide, hF⟩
  | inr w =>
    obtain ⟨x, rfl, hF⟩ := hr
    refine wg_i2l eL_soonest_8 ?_
    refine bg_last (k := 51) (n := 1) (j := 0) (i := 0) eL_soonest_9 (fun _ => rfl) (by decide) (by decide) (by decide) ?_
    refine wg_goto eL_soonest_10 ?_
    refine wg_iconst eL_soonest_21 ?_
    exact wg_ireturn eL_soonest_22 ⟨_, rfl, by decide, hF⟩
theorem hp_hint {G : bc_G} {M : bc_M} {a0 : Int} {F : Int → bc_M → Prop} (h : bc_Call G yX8_hint cX8_hint 3 (some .int) 9 2 [vR G 1 0, vI a0] M (AFI csA F)) : bh_Call G yL_hint cL_hint 4 (some .int) [(0, 9, 12, 13), (0, 9, 15, 19)] 10 2 [vR G 1 0, vI a0, vR G 51 0] M (fun r M' => ∃ k, r = .inr (some (vI k)) ∧ (0 ≤ k ∧ k ≤ 3) ∧ F k M') := by
  refine bh_enter (L := [some (vR G 1 0), some (vI a0), some (vR G 51 0), none]) (by decide) rfl rfl ?_
  refine wg_aload_n eL_hint_0 rfl ?_
  refine wg_iconst eL_hint_1 ?_
  refine wg_aload_n eL_hint_2 rfl ?_
  refine wg_iload_n eL_hint_3 rfl ?_
  refine bg_callVH (k := 1) (j := 0) (ci := 8) (n := 1) (As := [vI a0]) (st := [vI 0, vR G 51 0]) eL_hint_4 mw_1289 mw_1290 mw_1291 mw_105 mw_1292 ⟨rfl, by decide, by decide, by decide +kernel⟩ rfl rfl (by decide) rfl (by decide) ⟨by decide, by decide⟩ ⟨by decide, by decide⟩ rfl (bc_mono h (fun r M1 hr => ?_))
  cases r with
  | inl E =>
    obtain ⟨k, hk, hF⟩ := hr
    simp only [csA, List.mem_cons, Prod.mk.injEq, List.not_mem_nil, or_false] at hk
    rcases hk with ⟨rfl, rfl⟩ | ⟨rfl, rfl⟩
    · refine ⟨12, ⟨[], (0, 9, 12, 13), [(0, 9, 15, 19)], rfl, fun _ q => absurd q List.not_mem_nil, ⟨by decide, by decide, mw_680, by decide⟩, rfl⟩, fun q => ?_⟩
      refine wg_astore_nx eL_hint_12 rfl ?_
      refine wg_iconst eL_hint_13 ?_
      exact wg_ireturn eL_hint_14 ⟨_, rfl, by decide, hF⟩
    · refine ⟨15, ⟨[(0, 9, 12, 13)], (0, 9, 15, 19), [], rfl, List.forall_mem_cons.mpr ⟨⟨by decide, _, mw_680, by decide⟩, fun _ q => absurd q List.not_mem_nil⟩, ⟨by decide, by decide, mw_759, by decide⟩, rfl⟩, fun q => ?_⟩
      refine wg_astore_nx eL_hint_15 rfl ?_
      refine wg_iconst eL_hint_16 ?_
      exact wg_ireturn eL_hint_17 ⟨_, rfl, by decide, hF⟩
  | inr w =>
    obtain ⟨x, rfl, hF⟩ := hr
    refine wg_i2l eL_hint_7 ?_
    refine bg_last (k := 51) (n := 1) (j := 0) (i := 0) eL_hint_8 (fun _ => rfl) (by decide) (by decide) (by decide) ?_
    refine wg_goto eL_hint_9 ?_
    refine wg_iconst eL_hint_18 ?_
    exact wg_ireturn eL_hint_19 ⟨_, rfl, by decide, hF⟩
theorem hp_planTime {G : bc_G} {M : bc_M} {a0 a1 : Int} {F : Int → bc_M → Prop} (h : bc_Call G yX8_planTime cX8_planTime 3 (some .int) 9 4 [vR G 1 0, vI a0, vI a1] M (AFI csA F)) : bh_Call G yL_planTime cL_planTime 5 (some .int) [(0, 10, 13, 13), (0, 10, 17, 19)] 10 4 [vR G 1 0, vI a0, vI a1, vR G 51 0] M (fun r M' => ∃ k, r = .inr (some (vI k)) ∧ (0 ≤ k ∧ k ≤ 3) ∧ F k M') := by
  refine bh_enter (L := [some (vR G 1 0), some (vI a0), some (vI a1), some (vR G 51 0), none]) (by decide) rfl rfl ?_
  refine wg_aload_n eL_planTime_0 rfl ?_
  refine wg_iconst eL_planTime_1 ?_
  refine wg_aload_n eL_planTime_2 rfl ?_
  refine wg_iload_n eL_planTime_3 rfl ?_
  refine wg_iload_n eL_planTime_4 rfl ?_
  refine bg_callVH (k := 1) (j := 0) (ci := 8) (n := 2) (As := [vI a0, vI a1]) (st := [vI 0, vR G 51 0]) eL_planTime_5 mw_1296 mw_1297 mw_1298 mw_105 mw_1299 ⟨rfl, by decide, by decide, by decide +kernel⟩ rfl rfl (by decide) rfl (by decide) ⟨by decide, by decide⟩ ⟨by decide, by decide⟩ rfl (bc_mono h (fun r M1 hr => ?_))
  cases r with
  | inl E =>
    obtain ⟨k, hk, hF⟩ := hr
    simp only [csA, List.mem_cons, Prod.mk.injEq, List.not_mem_nil, or_false] at hk
    rcases hk with ⟨rfl, rfl⟩ | ⟨rfl, rfl⟩
    · refine ⟨13, ⟨[], (0, 10, 13, 13), [(0, 10, 17, 19)], rfl, fun _ q => absurd q List.not_mem_nil, ⟨by decide, by decide, mw_680, by decide⟩, rfl⟩, fun q => ?_⟩
      refine wg_astore_x eL_planTime_13 rfl ?_
      refine wg_iconst eL_planTime_15 ?_
      exact wg_ireturn eL_planTime_16 ⟨_, rfl, by decide, hF⟩
    · refine ⟨17, ⟨[(0, 10, 13, 13)], (0, 10, 17, 19), [], rfl, List.forall_mem_cons.mpr ⟨⟨by decide, _, mw_680, by decide⟩, fun _ q => absurd q List.not_mem_nil⟩, ⟨by decide, by decide, mw_759, by decide⟩, rfl⟩, fun q => ?_⟩
      refine wg_astore_x eL_planTime_17 rfl ?_
      refine wg_iconst eL_planTime_19 ?_
      exact wg_ireturn eL_planTime_20 ⟨_, rfl, by decide, hF⟩
  | inr w =>
    obtain ⟨x, rfl, hF⟩ := hr
    refine wg_i2l eL_planTime_8 ?_
    refine bg_last (k := 51) (n := 1) (j := 0) (i := 0) eL_planTime_9 (fun _ => rfl) (by decide) (by decide) (by decide) ?_
    refine wg_goto eL_planTime_10 ?_
    refine wg_iconst eL_planTime_21 ?_
    exact wg_ireturn eL_planTime_22 ⟨_, rfl, by decide, hF⟩
theorem hp_planItem {G : bc_G} {M : bc_M} {a0 a1 a2 : Int} {F : Int → bc_M → Prop} (h : bc_Call G yX8_planItem cX8_planItem 4 (some .int) 9 5 [vR G 1 0, vI a0, vI a1, vI a2] M (AFI csA F)) : bh_Call G yL_planItem cL_planItem 6 (some .int) [(0, 12, 15, 13), (0, 12, 19, 19)] 10 5 [vR G 1 0, vI a0, vI a1, vI a2, vR G 51 0] M (fun r M' => ∃ k, r = .inr (some (vI k)) ∧ (0 ≤ k ∧ k ≤ 3) ∧ F k M') := by
  refine bh_enter (L := [some (vR G 1 0), some (vI a0), some (vI a1), some (vI a2), some (vR G 51 0), none]) (by decide) rfl rfl ?_
  refine wg_aload eL_planItem_0 rfl ?_
  refine wg_iconst eL_planItem_2 ?_
  refine wg_aload_n eL_planItem_3 rfl ?_
  refine wg_iload_n eL_planItem_4 rfl ?_
  refine wg_iload_n eL_planItem_5 rfl ?_
  refine wg_iload_n eL_planItem_6 rfl ?_
  refine bg_callVH (k := 1) (j := 0) (ci := 8) (n := 3) (As := [vI a0, vI a1, vI a2]) (st := [vI 0, vR G 51 0]) eL_planItem_7 mw_1331 mw_1332 mw_1333 mw_105 mw_1334 ⟨rfl, by decide, by decide, by decide +kernel⟩ rfl rfl (by decide) rfl (by decide) ⟨by decide, by decide⟩ ⟨by decide, by decide⟩ rfl (bc_mono h (fun r M1 hr => ?_))
  cases r with
  | inl E =>
    obtain ⟨k, hk, hF⟩ := hr
    simp only [csA, List.mem_cons, Prod.mk.injEq, List.not_mem_nil, or_false] at hk
    rcases hk with ⟨rfl, rfl⟩ | ⟨rfl, rfl⟩
    · refine ⟨15, ⟨[], (0, 12, 15, 13), [(0, 12, 19, 19)], rfl, fun _ q => absurd q List.not_mem_nil, ⟨by decide, by decide, mw_680, by decide⟩, rfl⟩, fun q => ?_⟩
      refine wg_astore_x eL_planItem_15 rfl ?_
      refine wg_iconst eL_planItem_17 ?_
      exact wg_ireturn eL_planItem_18 ⟨_, rfl, by decide, hF⟩
    · refine ⟨19, ⟨[(0, 12, 15, 13)], (0, 12, 19, 19), [], rfl, List.forall_mem_cons.mpr ⟨⟨by decide, _, mw_680, by decide⟩, fun _ q => absurd q List.not_mem_nil⟩, ⟨by decide, by decide, mw_759, by decide⟩, rfl⟩, fun q => ?_⟩
      refine wg_astore_x eL_planItem_19 rfl ?_
      refine wg_iconst eL_planItem_21 ?_
      exact wg_ireturn eL_planItem_22 ⟨_, rfl, by decide, hF⟩
  | inr w =>
    obtain ⟨x, rfl, hF⟩ := hr
    refine wg_i2l eL_planItem_10 ?_
    refine bg_last (k := 51) (n := 1) (j := 0) (i := 0) eL_planItem_11 (fun _ => rfl) (by decide) (by decide) (by decide) ?_
    refine wg_goto eL_planItem_12 ?_
    refine wg_iconst eL_planItem_23 ?_
    exact wg_ireturn eL_planItem_24 ⟨_, rfl, by decide, hF⟩
theorem hp_undo {G : bc_G} {M : bc_M} {F : Int → bc_M → Prop} (h : bc_Call G yX8_undo cX8_undo 1 (some .int) 9 1 [vR G 1 0] M (AFI csS F)) : bh_Call G yL_undo cL_undo 3 (some .int) [(0, 8, 11, 13)] 10 1 [vR G 1 0, vR G 51 0] M (fun r M' => ∃ k, r = .inr (some (vI k)) ∧ (0 ≤ k ∧ k ≤ 3) ∧ F k M') := by
  refine bh_enter (L := [some (vR G 1 0), some (vR G 51 0), none]) (by decide) rfl rfl ?_
  refine wg_aload_n eL_undo_0 rfl ?_
  refine wg_iconst eL_undo_1 ?_
  refine wg_aload_n eL_undo_2 rfl ?_
  refine bg_callVH (k := 1) (j := 0) (ci := 8) (n := 0) (As := []) (st := [vI 0, vR G 51 0]) eL_undo_3 mw_1338 mw_1339 mw_1340 mw_105 mw_1341 ⟨rfl, by decide, by decide, by decide +kernel⟩ rfl rfl (by decide) rfl (by decide) ⟨by decide, by decide⟩ ⟨by decide, by decide⟩ rfl (bc_mono h (fun r M1 hr => ?_))
  cases r with
  | inl E =>
    obtain ⟨k, hk, hF⟩ := hr
    simp only [csS, List.mem_cons, Prod.mk.injEq, List.not_mem_nil, or_false] at hk
    obtain ⟨rfl, rfl⟩ := hk
    refine ⟨11, ⟨[], (0, 8, 11, 13), [], rfl, fun _ q => absurd q List.not_mem_nil, ⟨by decide, by decide, mw_680, by decide⟩, rfl⟩, fun q => ?_⟩
    refine wg_astore_nx eL_undo_11 rfl ?_
    refine wg_iconst eL_undo_12 ?_
    exact wg_ireturn eL_undo_13 ⟨_, rfl, by decide, hF⟩
  | inr w =>
    obtain ⟨x, rfl, hF⟩ := hr
    refine wg_i2l eL_undo_6 ?_
    refine bg_last (k := 51) (n := 1) (j := 0) (i := 0) eL_undo_7 (fun _ => rfl) (by decide) (by decide) (by decide) ?_
    refine wg_goto eL_undo_8 ?_
    refine wg_iconst eL_undo_14 ?_
    exact wg_ireturn eL_undo_15 ⟨_, rfl, by decide, hF⟩
