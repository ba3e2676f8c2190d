/-! the law's loop -/
theorem bx_and63 (x : Int) : 0 ≤ bx_and x 63 ∧ bx_and x 63 ≤ 63 := by
  unfold bx_and
  have h : (Int32.ofInt x &&& Int32.ofInt 63).toInt = (((Int32.ofInt x).toBitVec &&& 63#32).toNat : Int) := by
    have e1 : (Int32.ofInt x &&& Int32.ofInt 63).toBitVec = (Int32.ofInt x).toBitVec &&& 63#32 := rfl
    show (Int32.ofInt x &&& Int32.ofInt 63).toBitVec.toInt = _
    rw [e1, BitVec.toInt_eq_toNat_of_lt]
    have : ((Int32.ofInt x).toBitVec &&& 63#32).toNat ≤ 63 := by
      rw [BitVec.toNat_and]
      exact Nat.and_le_right
    omega
  have h2 : ((Int32.ofInt x).toBitVec &&& 63#32).toNat ≤ 63 := by
    rw [BitVec.toNat_and]
    exact Nat.and_le_right
  rw [h]
  omega
set_option maxHeartbeats 1000000 in
theorem law_loop {G : bc_G} {b Ls : Nat} {xs : Nat → Int32} (hL : Ls ≤ 3072) : ∀ (k j : Nat) (M : bc_M) (y6 y7 y8 : Option Value), (Ls : Int) < 6 * ((j : Int) + (k : Int)) + 6 → 6 * (j : Int) ≤ (Ls : Int) → KK M (j : Int) → bg_W G RL cL_law 9 ret room_1 (lw_T G b Ls xs) lw_E (1000 + 5 * j) (20000 + 40 * j) 28 [some (.ref b), some (vR G 1 0), some (vR G 33 0), some (vR G 51 0), some (vR G 52 0), some (vI (6 * (j : Int))), y6, y7, y8] [] M := by
  intro k
  induction k with
  | zero =>
    intro j M y6 y7 y8 hk hb hK
    refine wg_iload eL_law_28 rfl ?_
    refine wg_aload_no eL_law_30 rfl ?_
    refine wg_slen eL_law_31 ?_
    refine wg_bipush eL_law_32 ?_
    refine wg_isub eL_law_34 ?_
    refine wg_icmp_gt eL_law_35 (fun c => ?_) (fun c => ?_)
    · refine wg_iconst eL_law_3080 ?_
      exact wg_end eL_law_3081 (by omega) (by omega)
    · exact absurd c (by omega)
  | succ k ih =>
    intro j M y6 y7 y8 hk hb hK
    refine wg_iload eL_law_28 rfl ?_
    refine wg_aload_no eL_law_30 rfl ?_
    refine wg_slen eL_law_31 ?_
    refine wg_bipush eL_law_32 ?_
    refine wg_isub eL_law_34 ?_
    refine wg_icmp_gt eL_law_35 (fun c => ?_) (fun c => ?_)
    · refine wg_iconst eL_law_3080 ?_
      exact wg_end eL_law_3081 (by omega) (by omega)
    have hj : 6 * (j : Int) + 5 < (Ls : Int) := by omega
    have K : ∀ (M' : bc_M) (y6 y7 y8 : Option Value), KK M' ((j : Int) + 1) → bg_W G RL cL_law 9 ret room_1 (lw_T G b Ls xs) lw_E (1000 + 5 * j + 5) (20000 + 40 * j + 40) 3074 [some (.ref b), some (vR G 1 0), some (vR G 33 0), some (vR G 51 0), some (vR G 52 0), some (vI (6 * (j : Int))), y6, y7, y8] [] M' := fun M' y6 y7 y8 hK' => by
      refine wg_iinc eL_law_3074 rfl rfl ?_
      refine wg_goto eL_law_3077 ?_
      have h := ih (j + 1) M' y6 y7 y8 (by omega) (by omega) (by rw [Int.natCast_add]; exact hK')
      have e1 : 1000 + 5 * (j + 1) = 1000 + 5 * j + 5 := by omega
      have e2 : 20000 + 40 * (j + 1) = 20000 + 40 * j + 40 := by omega
      have e3 : 6 * ((j + 1 : Nat) : Int) = 6 * (j : Int) + 6 := by omega
      rw [e1, e2, e3] at h
      exact h
    refine wg_aload_no eL_law_38 rfl ?_
    refine wg_iload eL_law_39 rfl ?_
    refine wg_sld eL_law_41 ?_
    refine wg_bipush eL_law_42 ?_
    refine wg_iand eL_law_44 ?_
    have hx := bx_and63 (sx xs (6 * (j : Int)))
    generalize bx_and (sx xs (6 * (j : Int))) 63 = t at hx ⊢
    have ht : (Int32.ofInt t).toInt = t := bc_toInt (by omega)
    by_cases h8 : 47 < t
    · refine wg_tableOut (tgt := 3074) eL_law_45 (Or.inr (by rw [ht]; omega)) (by decide) ?_
      exact wg_widen (by omega) (by omega) (K M _ _ _ (hK.e KE.rf (by omega)))
    · have h48 : t = 0 ∨ t = 1 ∨ t = 2 ∨ t = 3 ∨ t = 4 ∨ t = 5 ∨ t = 6 ∨ t = 7 ∨ t = 8 ∨ t = 9 ∨ t = 10 ∨ t = 11 ∨ t = 12 ∨ t = 13 ∨ t = 14 ∨ t = 15 ∨ t = 16 ∨ t = 17 ∨ t = 18 ∨ t = 19 ∨ t = 20 ∨ t = 21 ∨ t = 22 ∨ t = 23 ∨ t = 24 ∨ t = 25 ∨ t = 26 ∨ t = 27 ∨ t = 28 ∨ t = 29 ∨ t = 30 ∨ t = 31 ∨ t = 32 ∨ t = 33 ∨ t = 34 ∨ t = 35 ∨ t = 36 ∨ t = 37 ∨ t = 38 ∨ t = 39 ∨ t = 40 ∨ t = 41 ∨ t = 42 ∨ t = 43 ∨ t = 44 ∨ t = 45 ∨ t = 46 ∨ t = 47 := by omega
      rcases h48 with rfl | rfl | rfl | rfl | rfl | rfl | rfl | rfl | rfl | rfl | rfl | rfl | rfl | rfl | rfl | rfl | rfl | rfl | rfl | rfl | rfl | rfl | rfl | rfl | rfl | rfl | rfl | rfl | rfl | rfl | rfl | rfl | rfl | rfl | rfl | rfl | rfl | rfl | rfl | rfl | rfl | rfl | rfl | rfl | rfl | rfl | rfl | rfl
      · exact wg_tableIn (off := 207) (tgt := 252) eL_law_45 (by decide) (by decide) (by decide +kernel) (by decide) (lc_append hK hj hL (by omega) (by omega) K)
      · exact wg_tableIn (off := 311) (tgt := 356) eL_law_45 (by decide) (by decide) (by decide +kernel) (by decide) (lc_truncate hK hj hL (by omega) (by omega) K)
      · exact wg_tableIn (off := 367) (tgt := 412) eL_law_45 (by decide) (by decide) (by decide +kernel) (by decide) (lc_load hK hj hL (by omega) (by omega) K)
      · exact wg_tableIn (off := 380) (tgt := 425) eL_law_45 (by decide) (by decide) (by decide +kernel) (by decide) (lc_errorPosition hK hj hL (by omega) (by omega) K)
      · exact wg_tableIn (off := 393) (tgt := 438) eL_law_45 (by decide) (by decide) (by decide +kernel) (by decide) (lc_request hK hj hL (by omega) (by omega) K)
      · exact wg_tableIn (off := 461) (tgt := 506) eL_law_45 (by decide) (by decide) (by decide +kernel) (by decide) (lc_think hK hj hL (by omega) (by omega) K)
      · exact wg_tableIn (off := 529) (tgt := 574) eL_law_45 (by decide) (by decide) (by decide +kernel) (by decide) (lc_setPopularity hK hj hL (by omega) (by omega) K)
      · exact wg_tableIn (off := 597) (tgt := 642) eL_law_45 (by decide) (by decide) (by decide +kernel) (by decide) (lc_setBound hK hj hL (by omega) (by omega) K)
      · exact wg_tableIn (off := 665) (tgt := 710) eL_law_45 (by decide) (by decide) (by decide +kernel) (by decide) (lc_setFrequency hK hj hL (by omega) (by omega) K)
      · exact wg_tableIn (off := 733) (tgt := 778) eL_law_45 (by decide) (by decide) (by decide +kernel) (by decide) (lc_setIndex hK hj hL (by omega) (by omega) K)
      · exact wg_tableIn (off := 801) (tgt := 846) eL_law_45 (by decide) (by decide) (by decide +kernel) (by decide) (lc_moveItem hK hj hL (by omega) (by omega) K)
      · exact wg_tableIn (off := 869) (tgt := 914) eL_law_45 (by decide) (by decide) (by decide +kernel) (by decide) (lc_repair hK hj hL (by omega) (by omega) K)
      · exact wg_tableIn (off := 913) (tgt := 958) eL_law_45 (by decide) (by decide) (by decide +kernel) (by decide) (lc_applyTiers hK hj hL (by omega) (by omega) K)
      · exact wg_tableIn (off := 969) (tgt := 1014) eL_law_45 (by decide) (by decide) (by decide +kernel) (by decide) (lc_itemValue hK hj hL (by omega) (by omega) K)
      · exact wg_tableIn (off := 1037) (tgt := 1082) eL_law_45 (by decide) (by decide) (by decide +kernel) (by decide) (lc_frequency hK hj hL (by omega) (by omega) K)
      · exact wg_tableIn (off := 1093) (tgt := 1138) eL_law_45 (by decide) (by decide) (by decide +kernel) (by decide) (lc_itemsOf hK hj hL (by omega) (by omega) K)
      · exact wg_tableIn (off := 1149) (tgt := 1194) eL_law_45 (by decide) (by decide) (by decide +kernel) (by decide) (lc_cycle hK hj hL (by omega) (by omega) K)
      · exact wg_tableIn (off := 1193) (tgt := 1238) eL_law_45 (by decide) (by decide) (by decide +kernel) (by decide) (lc_slotAt hK hj hL (by omega) (by omega) K)
      · exact wg_tableIn (off := 1249) (tgt := 1294) eL_law_45 (by decide) (by decide) (by decide +kernel) (by decide) (lc_occurrences hK hj hL (by omega) (by omega) K)
      · exact wg_tableIn (off := 1305) (tgt := 1350) eL_law_45 (by decide) (by decide) (by decide +kernel) (by decide) (lc_emptySlots hK hj hL (by omega) (by omega) K)
      · exact wg_tableIn (off := 1349) (tgt := 1394) eL_law_45 (by decide) (by decide) (by decide +kernel) (by decide) (lc_gap hK hj hL (by omega) (by omega) K)
      · exact wg_tableIn (off := 1405) (tgt := 1450) eL_law_45 (by decide) (by decide) (by decide +kernel) (by decide) (lc_violations hK hj hL (by omega) (by omega) K)
      · exact wg_tableIn (off := 1449) (tgt := 1494) eL_law_45 (by decide) (by decide) (by decide +kernel) (by decide) (lc_nextTime hK hj hL (by omega) (by omega) K)
      · exact wg_tableIn (off := 1517) (tgt := 1562) eL_law_45 (by decide) (by decide) (by decide +kernel) (by decide) (lc_share hK hj hL (by omega) (by omega) K)
      · exact wg_tableIn (off := 1594) (tgt := 1639) eL_law_45 (by decide) (by decide) (by decide +kernel) (by decide) (lc_accessTime hK hj hL (by omega) (by omega) K)
      · exact wg_tableIn (off := 1662) (tgt := 1707) eL_law_45 (by decide) (by decide) (by decide +kernel) (by decide) (lc_tuningTime hK hj hL (by omega) (by omega) K)
      · exact wg_tableIn (off := 1730) (tgt := 1775) eL_law_45 (by decide) (by decide) (by decide +kernel) (by decide) (lc_worstAccess hK hj hL (by omega) (by omega) K)
      · exact wg_tableIn (off := 1786) (tgt := 1831) eL_law_45 (by decide) (by decide) (by decide +kernel) (by decide) (lc_weight hK hj hL (by omega) (by omega) K)
      · exact wg_tableIn (off := 1841) (tgt := 1886) eL_law_45 (by decide) (by decide) (by decide +kernel) (by decide) (lc_meanAccess hK hj hL (by omega) (by omega) K)
      · exact wg_tableIn (off := 1918) (tgt := 1963) eL_law_45 (by decide) (by decide) (by decide +kernel) (by decide) (lc_bestSegments hK hj hL (by omega) (by omega) K)
      · exact wg_tableIn (off := 1974) (tgt := 2019) eL_law_45 (by decide) (by decide) (by decide +kernel) (by decide) (lc_worstTime hK hj hL (by omega) (by omega) K)
      · exact wg_tableIn (off := 2030) (tgt := 2075) eL_law_45 (by decide) (by decide) (by decide +kernel) (by decide) (lc_leastWorth hK hj hL (by omega) (by omega) K)
      · exact wg_tableIn (off := 2074) (tgt := 2119) eL_law_45 (by decide) (by decide) (by decide +kernel) (by decide) (lc_itemRank hK hj hL (by omega) (by omega) K)
      · exact wg_tableIn (off := 2130) (tgt := 2175) eL_law_45 (by decide) (by decide) (by decide +kernel) (by decide) (lc_diskRank hK hj hL (by omega) (by omega) K)
      · exact wg_tableIn (off := 2186) (tgt := 2231) eL_law_45 (by decide) (by decide) (by decide +kernel) (by decide) (lc_tierSize hK hj hL (by omega) (by omega) K)
      · exact wg_tableIn (off := 2254) (tgt := 2299) eL_law_45 (by decide) (by decide) (by decide +kernel) (by decide) (lc_tierWeight hK hj hL (by omega) (by omega) K)
      · exact wg_tableIn (off := 2309) (tgt := 2354) eL_law_45 (by decide) (by decide) (by decide +kernel) (by decide) (lc_afterRepair hK hj hL (by omega) (by omega) K)
      · exact wg_tableIn (off := 2353) (tgt := 2398) eL_law_45 (by decide) (by decide) (by decide +kernel) (by decide) (lc_bestDisk hK hj hL (by omega) (by omega) K)
      · exact wg_tableIn (off := 2409) (tgt := 2454) eL_law_45 (by decide) (by decide) (by decide +kernel) (by decide) (lc_clientCount hK hj hL (by omega) (by omega) K)
      · exact wg_tableIn (off := 2453) (tgt := 2498) eL_law_45 (by decide) (by decide) (by decide +kernel) (by decide) (lc_clientValue hK hj hL (by omega) (by omega) K)
      · exact wg_tableIn (off := 2521) (tgt := 2566) eL_law_45 (by decide) (by decide) (by decide +kernel) (by decide) (lc_cache hK hj hL (by omega) (by omega) K)
      · exact wg_tableIn (off := 2577) (tgt := 2622) eL_law_45 (by decide) (by decide) (by decide +kernel) (by decide) (lc_requests hK hj hL (by omega) (by omega) K)
      · exact wg_tableIn (off := 2645) (tgt := 2690) eL_law_45 (by decide) (by decide) (by decide +kernel) (by decide) (lc_victim hK hj hL (by omega) (by omega) K)
      · exact wg_tableIn (off := 2713) (tgt := 2758) eL_law_45 (by decide) (by decide) (by decide +kernel) (by decide) (lc_soonest hK hj hL (by omega) (by omega) K)
      · exact wg_tableIn (off := 2781) (tgt := 2826) eL_law_45 (by decide) (by decide) (by decide +kernel) (by decide) (lc_hint hK hj hL (by omega) (by omega) K)
      · exact wg_tableIn (off := 2837) (tgt := 2882) eL_law_45 (by decide) (by decide) (by decide +kernel) (by decide) (lc_planTime hK hj hL (by omega) (by omega) K)
      · exact wg_tableIn (off := 2905) (tgt := 2950) eL_law_45 (by decide) (by decide) (by decide +kernel) (by decide) (lc_planItem hK hj hL (by omega) (by omega) K)
      · exact wg_tableIn (off := 2985) (tgt := 3030) eL_law_45 (by decide) (by decide) (by decide +kernel) (by decide) (lc_undo hK hj hL (by omega) (by omega) K)
