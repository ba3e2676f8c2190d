section SWR
variable {G : bc_G} {own : String} {cc : ByteArray} {mL : Nat} {rt : Option FieldType} {d N u pc pc' : Nat} {L : List (Option Value)} {st : List Value} {M : bc_M} {post : bc_R → bc_M → Prop}
theorem wp_lookup {x dflt off : Int} {ps : Array (Int × Int)} {len tgt : Nat} (hd : bc_d cc pc (.lookupswitch dflt ps) len pc') (hp : (ps.toList.zip (ps.toList.drop 1)).all (fun (a, next) => a.1 < next.1) = true) (ho : Op.lookupswitch.offset ps.toList dflt (Int32.ofInt x).toInt = off) (ht : (pc : Int) + off = (tgt : Int)) (K : bc_W G own cc mL rt d N u tgt L st M post) : bc_W G own cc mL rt d N u pc L (vI x :: st) M post := by
  intro p e s m args below meth c H locs ls C hl hH hS
  exact lv_lookup C.1 C.2.1 hd.1 hp ho ht (K p e s m args below meth c H locs ls C hl hH hS)
theorem wp_tableIn {x dflt lo hi off : Int} {offs : Array Int} {len tgt : Nat} (hd : bc_d cc pc (.tableswitch dflt lo hi offs) len pc') (h1 : ¬ (Int32.ofInt x).toInt < lo) (h2 : ¬ hi < (Int32.ofInt x).toInt) (ho : offs[((Int32.ofInt x).toInt - lo).toNat]? = some off) (ht : (pc : Int) + off = (tgt : Int)) (K : bc_W G own cc mL rt d N u tgt L st M post) : bc_W G own cc mL rt d N u pc L (vI x :: st) M post := by
  intro p e s m args below meth c H locs ls C hl hH hS
  exact lv_tableIn C.1 C.2.1 hd.1 h1 h2 ho ht (K p e s m args below meth c H locs ls C hl hH hS)
theorem wp_tableOut {x dflt lo hi : Int} {offs : Array Int} {len tgt : Nat} (hd : bc_d cc pc (.tableswitch dflt lo hi offs) len pc') (h : (Int32.ofInt x).toInt < lo ∨ hi < (Int32.ofInt x).toInt) (ht : (pc : Int) + dflt = (tgt : Int)) (K : bc_W G own cc mL rt d N u tgt L st M post) : bc_W G own cc mL rt d N u pc L (vI x :: st) M post := by
  intro p e s m args below meth c H locs ls C hl hH hS
  exact lv_tableOut C.1 C.2.1 hd.1 h ht (K p e s m args below meth c H locs ls C hl hH hS)
end SWR
/-- a state in order -/
def SI (M : bc_M) (s n : Int) : Prop := SM M s ∧ (∀ q, 0 ≤ q → q < 16 → 0 ≤ M 9 s q ∧ M 9 s q < 10000) ∧ (0 ≤ M 5 s 1 ∧ M 5 s 1 ≤ 4) ∧ ∀ c, 0 ≤ c → c < M 5 s 1 → CN M (4 * s + c) n
/-- the program j is that of the settings z -/
def BS (M : bc_M) (j z : Int) : Prop := BR M j (M 9 z) (M 7 z) (M 6 z 2) (M 6 z 3) (M 6 z 0) (M 6 z 1)
/-- a carousel in order -/
def LI (M : bc_M) (n : Int) : Prop := SI M 1 n ∧ BS M 0 1 ∧ (0 ≤ M 15 0 1 ∧ M 15 0 1 < 10) ∧ (0 ≤ M 15 0 0 ∧ M 15 0 0 ≤ 10) ∧ ∀ r, 0 ≤ r → r < M 15 0 0 → SI M (2 + (M 15 0 1 - 1 - r) % 10) n
theorem ct_cycle {G : bc_G} {M : bc_M} {post : bc_R → bc_M → Prop} {n : Int} (hl : M 1 0 3 = 0 ∨ M 1 0 3 = 1) (hI : M 1 0 3 = 1 → LI M n) (k1 : M 1 0 3 = 0 → post (.inl "java/lang/IllegalStateException") M) (k3 : M 1 0 3 = 1 → post (.inr (some (vI (M 17 0 0)))) M) : bc_Call G yX8_cycle cX8_cycle 1 (some .int) 9 1 [vR G 1 0] M post := by
  refine bc_enter (L := [some (vR G 1 0)]) (by decide) rfl rfl ?_
  refine wp_aload_n eX8_cycle_0 rfl ?_
  refine cx_X8_125 eX8_cycle_1 (ct_needCarousel k1 (fun hc0 => ?_))
  have hL1 : M 1 0 3 = 1 := by omega
  obtain ⟨hsi, hbr, hhn, hhr, hri⟩ := hI hL1
  have hsm := hsi.1
  have hni := hsm.1.2.1
  have hnd := hsm.1.1
  have hls := hsi.2.2.1
  have hpv := BR.pv hsm.1 hbr
  refine wp_aload_n eX8_cycle_4 rfl ?_
  refine gf_X8_51 eX8_cycle_5 ?_
  refine gf_X8_167 eX8_cycle_8 ?_
  refine wp_ireturn eX8_cycle_11 ?_
  exact k3 hL1
theorem ct_occurrences {G : bc_G} {M : bc_M} {post : bc_R → bc_M → Prop} {n : Int} {i : Int} (h_i : -2147483648 ≤ i ∧ i < 2147483648) (hl : M 1 0 3 = 0 ∨ M 1 0 3 = 1) (hI : M 1 0 3 = 1 → LI M n) (k1 : M 1 0 3 = 0 → post (.inl "java/lang/IllegalStateException") M) (k2 : M 1 0 3 = 1 → (i < 0 ∨ M 6 1 3 ≤ i) → post (.inl "java/lang/IllegalArgumentException") M) (k3 : M 1 0 3 = 1 → ¬ ((i < 0 ∨ M 6 1 3 ≤ i)) → post (.inr (some (vI (M 19 0 i)))) M) : bc_Call G yX8_occurrences cX8_occurrences 2 (some .int) 9 2 [vR G 1 0, vI i] M post := by
  refine bc_enter (L := [some (vR G 1 0), some (vI i)]) (by decide) rfl rfl ?_
  refine wp_aload_n eX8_occurrences_0 rfl ?_
  refine cx_X8_125 eX8_occurrences_1 (ct_needCarousel k1 (fun hc0 => ?_))
  have hL1 : M 1 0 3 = 1 := by omega
  obtain ⟨hsi, hbr, hhn, hhr, hri⟩ := hI hL1
  have hsm := hsi.1
  have hni := hsm.1.2.1
  have hnd := hsm.1.1
  have hls := hsi.2.2.1
  have hpv := BR.pv hsm.1 hbr
  refine wp_aload_n eX8_occurrences_4 rfl ?_
  refine wp_iload_n eX8_occurrences_5 rfl ?_
  refine cx_X8_131 eX8_occurrences_6 (ct_needItem (fun h => k2 hL1 (by omega)) (fun g6a g6b => ?_))
  refine wp_aload_n eX8_occurrences_9 rfl ?_
  refine gf_X8_51 eX8_occurrences_10 ?_
  refine gf_X8_192 eX8_occurrences_13 ?_
  refine wp_iload_n eX8_occurrences_16 rfl ?_
  refine al_19 eX8_occurrences_17 ?_
  refine wp_ireturn eX8_occurrences_18 ?_
  exact k3 hL1 (by omega)
theorem ct_frequency {G : bc_G} {M : bc_M} {post : bc_R → bc_M → Prop} {n : Int} {x : Int} (h_x : -2147483648 ≤ x ∧ x < 2147483648) (hl : M 1 0 3 = 0 ∨ M 1 0 3 = 1) (hI : M 1 0 3 = 1 → LI M n) (k1 : M 1 0 3 = 0 → post (.inl "java/lang/IllegalStateException") M) (k2 : M 1 0 3 = 1 → (x < 0 ∨ M 6 1 2 ≤ x) → post (.inl "java/lang/IllegalArgumentException") M) (k3 : M 1 0 3 = 1 → ¬ ((x < 0 ∨ M 6 1 2 ≤ x)) → post (.inr (some (vI (M 7 1 x)))) M) : bc_Call G yX8_frequency cX8_frequency 2 (some .int) 9 2 [vR G 1 0, vI x] M post := by
  refine bc_enter (L := [some (vR G 1 0), some (vI x)]) (by decide) rfl rfl ?_
  refine wp_aload_n eX8_frequency_0 rfl ?_
  refine cx_X8_125 eX8_frequency_1 (ct_needCarousel k1 (fun hc0 => ?_))
  have hL1 : M 1 0 3 = 1 := by omega
  obtain ⟨hsi, hbr, hhn, hhr, hri⟩ := hI hL1
  have hsm := hsi.1
  have hni := hsm.1.2.1
  have hnd := hsm.1.1
  have hls := hsi.2.2.1
  have hpv := BR.pv hsm.1 hbr
  refine wp_aload_n eX8_frequency_4 rfl ?_
  refine wp_iload_n eX8_frequency_5 rfl ?_
  refine cx_X8_155 eX8_frequency_6 (ct_needDisk (fun h => k2 hL1 (by omega)) (fun g6a g6b => ?_))
  refine wp_aload_n eX8_frequency_9 rfl ?_
  refine gf_X8_38 eX8_frequency_10 ?_
  refine gf_X8_112 eX8_frequency_13 ?_
  refine gf_X8_158 eX8_frequency_16 ?_
  refine wp_iload_n eX8_frequency_19 rfl ?_
  refine al_7 eX8_frequency_20 ?_
  refine wp_ireturn eX8_frequency_21 ?_
  exact k3 hL1 (by omega)
theorem ct_clientCount {G : bc_G} {M : bc_M} {post : bc_R → bc_M → Prop} {n : Int} (hl : M 1 0 3 = 0 ∨ M 1 0 3 = 1) (hI : M 1 0 3 = 1 → LI M n) (k1 : M 1 0 3 = 0 → post (.inl "java/lang/IllegalStateException") M) (k3 : M 1 0 3 = 1 → post (.inr (some (vI (M 5 1 1)))) M) : bc_Call G yX8_clientCount cX8_clientCount 1 (some .int) 9 1 [vR G 1 0] M post := by
  refine bc_enter (L := [some (vR G 1 0)]) (by decide) rfl rfl ?_
  refine wp_aload_n eX8_clientCount_0 rfl ?_
  refine cx_X8_125 eX8_clientCount_1 (ct_needCarousel k1 (fun hc0 => ?_))
  have hL1 : M 1 0 3 = 1 := by omega
  obtain ⟨hsi, hbr, hhn, hhr, hri⟩ := hI hL1
  have hsm := hsi.1
  have hni := hsm.1.2.1
  have hnd := hsm.1.1
  have hls := hsi.2.2.1
  have hpv := BR.pv hsm.1 hbr
  refine wp_aload_n eX8_clientCount_4 rfl ?_
  refine gf_X8_38 eX8_clientCount_5 ?_
  refine gf_X8_278 eX8_clientCount_8 ?_
  refine wp_ireturn eX8_clientCount_11 ?_
  exact k3 hL1
theorem ct_cache {G : bc_G} {M : bc_M} {post : bc_R → bc_M → Prop} {n : Int} {c : Int} (h_c : -2147483648 ≤ c ∧ c < 2147483648) (hl : M 1 0 3 = 0 ∨ M 1 0 3 = 1) (hI : M 1 0 3 = 1 → LI M n) (k1 : M 1 0 3 = 0 → post (.inl "java/lang/IllegalStateException") M) (k2 : M 1 0 3 = 1 → (c < 0 ∨ M 5 1 1 ≤ c) → post (.inl "java/lang/IllegalArgumentException") M) (k3 : M 1 0 3 = 1 → ¬ ((c < 0 ∨ M 5 1 1 ≤ c)) → post (.inr (some (vI (M 12 (4 * 1 + c) 7)))) M) : bc_Call G yX8_cache cX8_cache 2 (some .int) 9 2 [vR G 1 0, vI c] M post := by
  refine bc_enter (L := [some (vR G 1 0), some (vI c)]) (by decide) rfl rfl ?_
  refine wp_aload_n eX8_cache_0 rfl ?_
  refine cx_X8_125 eX8_cache_1 (ct_needCarousel k1 (fun hc0 => ?_))
  have hL1 : M 1 0 3 = 1 := by omega
  obtain ⟨hsi, hbr, hhn, hhr, hri⟩ := hI hL1
  have hsm := hsi.1
  have hni := hsm.1.2.1
  have hnd := hsm.1.1
  have hls := hsi.2.2.1
  have hpv := BR.pv hsm.1 hbr
  refine wp_aload_n eX8_cache_4 rfl ?_
  refine wp_iload_n eX8_cache_5 rfl ?_
  refine cx_X8_128 eX8_cache_6 (ct_needClient (fun h => k2 hL1 (by omega)) (fun g6a g6b => ?_))
  refine wp_aload_n eX8_cache_9 rfl ?_
  refine gf_X8_38 eX8_cache_10 ?_
  refine gf_X8_137 eX8_cache_13 ?_
  refine wp_iload_n eX8_cache_16 rfl ?_
  refine al_11 eX8_cache_17 ?_
  refine gf_X8_296 eX8_cache_18 ?_
  refine wp_ireturn eX8_cache_21 ?_
  exact k3 hL1 (by omega)
theorem ct_requests {G : bc_G} {M : bc_M} {post : bc_R → bc_M → Prop} {n : Int} {c i : Int} (h_c : -2147483648 ≤ c ∧ c < 2147483648) (h_i : -2147483648 ≤ i ∧ i < 2147483648) (hl : M 1 0 3 = 0 ∨ M 1 0 3 = 1) (hI : M 1 0 3 = 1 → LI M n) (k1 : M 1 0 3 = 0 → post (.inl "java/lang/IllegalStateException") M) (k2 : M 1 0 3 = 1 → (c < 0 ∨ M 5 1 1 ≤ c) ∨ (i < 0 ∨ M 6 1 3 ≤ i) → post (.inl "java/lang/IllegalArgumentException") M) (k3 : M 1 0 3 = 1 → ¬ ((c < 0 ∨ M 5 1 1 ≤ c) ∨ (i < 0 ∨ M 6 1 3 ≤ i)) → post (.inr (some (vI (M 13 (4 * 1 + c) i)))) M) : bc_Call G yX8_requests cX8_requests 3 (some .int) 9 3 [vR G 1 0, vI c, vI i] M post := by
  refine bc_enter (L := [some (vR G 1 0), some (vI c), some (vI i)]) (by decide) rfl rfl ?_
  refine wp_aload_n eX8_requests_0 rfl ?_
  refine cx_X8_125 eX8_requests_1 (ct_needCarousel k1 (fun hc0 => ?_))
  have hL1 : M 1 0 3 = 1 := by omega
  obtain ⟨hsi, hbr, hhn, hhr, hri⟩ := hI hL1
  have hsm := hsi.1
  have hni := hsm.1.2.1
  have hnd := hsm.1.1
  have hls := hsi.2.2.1
  have hpv := BR.pv hsm.1 hbr
  refine wp_aload_n eX8_requests_4 rfl ?_
  refine wp_iload_n eX8_requests_5 rfl ?_
  refine cx_X8_128 eX8_requests_6 (ct_needClient (fun h => k2 hL1 (by omega)) (fun g6a g6b => ?_))
  refine wp_aload_n eX8_requests_9 rfl ?_
  refine wp_iload_n eX8_requests_10 rfl ?_
  refine cx_X8_131 eX8_requests_11 (ct_needItem (fun h => k2 hL1 (by omega)) (fun g11a g11b => ?_))
  refine wp_aload_n eX8_requests_14 rfl ?_
  refine gf_X8_38 eX8_requests_15 ?_
  refine gf_X8_137 eX8_requests_18 ?_
  refine wp_iload_n eX8_requests_21 rfl ?_
  refine al_11 eX8_requests_22 ?_
  refine gf_X8_299 eX8_requests_23 ?_
  refine wp_iload_n eX8_requests_26 rfl ?_
  refine al_13 eX8_requests_27 ?_
  refine wp_ireturn eX8_requests_28 ?_
  exact k3 hL1 (by omega)
theorem ct_slotAt {G : bc_G} {M : bc_M} {post : bc_R → bc_M → Prop} {n : Int} {t : Int} (h_t : -2147483648 ≤ t ∧ t < 2147483648) (hl : M 1 0 3 = 0 ∨ M 1 0 3 = 1) (hI : M 1 0 3 = 1 → LI M n) (k1 : M 1 0 3 = 0 → post (.inl "java/lang/IllegalStateException") M) (k2 : M 1 0 3 = 1 → (t < 0 ∨ 999999 < t) → post (.inl "java/lang/IllegalArgumentException") M) (k3 : M 1 0 3 = 1 → ¬ ((t < 0 ∨ 999999 < t)) → post (.inr (some (vI (pg_content M 0 (M 6 1 3) (t % M 17 0 0))))) M) : bc_Call G yX8_slotAt cX8_slotAt 2 (some .int) 9 2 [vR G 1 0, vI t] M post := by
  refine bc_enter (L := [some (vR G 1 0), some (vI t)]) (by decide) rfl rfl ?_
  refine wp_aload_n eX8_slotAt_0 rfl ?_
  refine cx_X8_125 eX8_slotAt_1 (ct_needCarousel k1 (fun hc0 => ?_))
  have hL1 : M 1 0 3 = 1 := by omega
  obtain ⟨hsi, hbr, hhn, hhr, hri⟩ := hI hL1
  have hsm := hsi.1
  have hni := hsm.1.2.1
  have hnd := hsm.1.1
  have hls := hsi.2.2.1
  have hpv := BR.pv hsm.1 hbr
  refine wp_iload_n eX8_slotAt_4 rfl ?_
  refine wp_iconst eX8_slotAt_5 ?_
  refine wp_ldci (n := 999999) eX8_slotAt_6 kc_X8_187 (by decide) ?_
  refine cx_X8_97 eX8_slotAt_8 (ct_needRange (fun h => k2 hL1 (by omega)) (fun g8a g8b => ?_))
  refine wp_aload_n eX8_slotAt_11 rfl ?_
  refine gf_X8_51 eX8_slotAt_12 ?_
  refine wp_iload_n eX8_slotAt_15 rfl ?_
  refine wp_aload_n eX8_slotAt_16 rfl ?_
  refine gf_X8_38 eX8_slotAt_17 ?_
  refine gf_X8_112 eX8_slotAt_20 ?_
  refine gf_X8_122 eX8_slotAt_23 ?_
  refine c_X8_188 eX8_slotAt_26 (ct_contentAt (ni := M 6 1 3) (by omega) hpv.1 (by omega) ?_)
  refine wp_ireturn eX8_slotAt_29 ?_
  exact k3 hL1 (by omega)
theorem ct_gap {G : bc_G} {M : bc_M} {post : bc_R → bc_M → Prop} {n : Int} {i : Int} (h_i : -2147483648 ≤ i ∧ i < 2147483648) (hl : M 1 0 3 = 0 ∨ M 1 0 3 = 1) (hI : M 1 0 3 = 1 → LI M n) (k1 : M 1 0 3 = 0 → post (.inl "java/lang/IllegalStateException") M) (k2 : M 1 0 3 = 1 → (i < 0 ∨ M 6 1 3 ≤ i) → post (.inl "java/lang/IllegalArgumentException") M) (k3 : M 1 0 3 = 1 → ¬ ((i < 0 ∨ M 6 1 3 ≤ i)) → post (.inr (some (vI (pg_gap M 0 i)))) M) : bc_Call G yX8_gap cX8_gap 2 (some .int) 9 2 [vR G 1 0, vI i] M post := by
  refine bc_enter (L := [some (vR G 1 0), some (vI i)]) (by decide) rfl rfl ?_
  refine wp_aload_n eX8_gap_0 rfl ?_
  refine cx_X8_125 eX8_gap_1 (ct_needCarousel k1 (fun hc0 => ?_))
  have hL1 : M 1 0 3 = 1 := by omega
  obtain ⟨hsi, hbr, hhn, hhr, hri⟩ := hI hL1
  have hsm := hsi.1
  have hni := hsm.1.2.1
  have hnd := hsm.1.1
  have hls := hsi.2.2.1
  have hpv := BR.pv hsm.1 hbr
  refine wp_aload_n eX8_gap_4 rfl ?_
  refine wp_iload_n eX8_gap_5 rfl ?_
  refine cx_X8_131 eX8_gap_6 (ct_needItem (fun h => k2 hL1 (by omega)) (fun g6a g6b => ?_))
  refine wp_aload_n eX8_gap_9 rfl ?_
  refine gf_X8_51 eX8_gap_10 ?_
  refine wp_iload_n eX8_gap_13 rfl ?_
  refine c_X8_198 eX8_gap_14 (ct_widestGap (by omega) hpv.1 (by omega) ?_)
  refine wp_ireturn eX8_gap_17 ?_
  exact k3 hL1 (by omega)
theorem ct_violations {G : bc_G} {M : bc_M} {post : bc_R → bc_M → Prop} {n : Int} (hl : M 1 0 3 = 0 ∨ M 1 0 3 = 1) (hI : M 1 0 3 = 1 → LI M n) (k1 : M 1 0 3 = 0 → post (.inl "java/lang/IllegalStateException") M) (k3 : M 1 0 3 = 1 → post (.inr (some (vI (pg_viol M 0 1 (M 6 1 3).toNat 0 0)))) M) : bc_Call G yX8_violations cX8_violations 1 (some .int) 9 1 [vR G 1 0] M post := by
  refine bc_enter (L := [some (vR G 1 0)]) (by decide) rfl rfl ?_
  refine wp_aload_n eX8_violations_0 rfl ?_
  refine cx_X8_125 eX8_violations_1 (ct_needCarousel k1 (fun hc0 => ?_))
  have hL1 : M 1 0 3 = 1 := by omega
  obtain ⟨hsi, hbr, hhn, hhr, hri⟩ := hI hL1
  have hsm := hsi.1
  have hni := hsm.1.2.1
  have hnd := hsm.1.1
  have hls := hsi.2.2.1
  have hpv := BR.pv hsm.1 hbr
  refine wp_aload_n eX8_violations_4 rfl ?_
  refine gf_X8_51 eX8_violations_5 ?_
  refine wp_aload_n eX8_violations_8 rfl ?_
  refine gf_X8_38 eX8_violations_9 ?_
  refine gf_X8_112 eX8_violations_12 ?_
  refine c_X8_202 eX8_violations_15 (ct_violators (by omega) hpv.1 (by omega) rfl (fun i a b => (hsm.2 i a b).2) ?_)
  refine wp_ireturn eX8_violations_18 ?_
  exact k3 hL1
theorem ct_accessTime {G : bc_G} {M : bc_M} {post : bc_R → bc_M → Prop} {n : Int} {i t : Int} (h_i : -2147483648 ≤ i ∧ i < 2147483648) (h_t : -2147483648 ≤ t ∧ t < 2147483648) (hl : M 1 0 3 = 0 ∨ M 1 0 3 = 1) (hI : M 1 0 3 = 1 → LI M n) (k1 : M 1 0 3 = 0 → post (.inl "java/lang/IllegalStateException") M) (k2 : M 1 0 3 = 1 → (i < 0 ∨ M 6 1 3 ≤ i) ∨ (t < 0 ∨ 999999 < t) → post (.inl "java/lang/IllegalArgumentException") M) (k3 : M 1 0 3 = 1 → ¬ ((i < 0 ∨ M 6 1 3 ≤ i) ∨ (t < 0 ∨ 999999 < t)) → post (.inr (some (vI (pg_wait M 0 i t)))) M) : bc_Call G yX8_accessTime cX8_accessTime 3 (some .int) 9 3 [vR G 1 0, vI i, vI t] M post := by
  refine bc_enter (L := [some (vR G 1 0), some (vI i), some (vI t)]) (by decide) rfl rfl ?_
  refine wp_aload_n eX8_accessTime_0 rfl ?_
  refine cx_X8_125 eX8_accessTime_1 (ct_needCarousel k1 (fun hc0 => ?_))
  have hL1 : M 1 0 3 = 1 := by omega
  obtain ⟨hsi, hbr, hhn, hhr, hri⟩ := hI hL1
  have hsm := hsi.1
  have hni := hsm.1.2.1
  have hnd := hsm.1.1
  have hls := hsi.2.2.1
  have hpv := BR.pv hsm.1 hbr
  refine wp_aload_n eX8_accessTime_4 rfl ?_
  refine wp_iload_n eX8_accessTime_5 rfl ?_
  refine cx_X8_131 eX8_accessTime_6 (ct_needItem (fun h => k2 hL1 (by omega)) (fun g6a g6b => ?_))
  refine wp_iload_n eX8_accessTime_9 rfl ?_
  refine wp_iconst eX8_accessTime_10 ?_
  refine wp_ldci (n := 999999) eX8_accessTime_11 kc_X8_187 (by decide) ?_
  refine cx_X8_97 eX8_accessTime_13 (ct_needRange (fun h => k2 hL1 (by omega)) (fun g13a g13b => ?_))
  refine wp_aload_n eX8_accessTime_16 rfl ?_
  refine gf_X8_51 eX8_accessTime_17 ?_
  refine wp_iload_n eX8_accessTime_20 rfl ?_
  refine wp_iload_n eX8_accessTime_21 rfl ?_
  refine c_X8_213 eX8_accessTime_22 (ct_waitFor (by omega) hpv.1 (by omega) (by omega) ?_)
  refine wp_ireturn eX8_accessTime_25 ?_
  exact k3 hL1 (by omega)
theorem ct_tuningTime {G : bc_G} {M : bc_M} {post : bc_R → bc_M → Prop} {n : Int} {i t : Int} (h_i : -2147483648 ≤ i ∧ i < 2147483648) (h_t : -2147483648 ≤ t ∧ t < 2147483648) (hl : M 1 0 3 = 0 ∨ M 1 0 3 = 1) (hI : M 1 0 3 = 1 → LI M n) (k1 : M 1 0 3 = 0 → post (.inl "java/lang/IllegalStateException") M) (k2 : M 1 0 3 = 1 → (i < 0 ∨ M 6 1 3 ≤ i) ∨ (t < 0 ∨ 999999 < t) → post (.inl "java/lang/IllegalArgumentException") M) (k3 : M 1 0 3 = 1 → ¬ ((i < 0 ∨ M 6 1 3 ≤ i) ∨ (t < 0 ∨ 999999 < t)) → post (.inr (some (vI (pg_listen M 0 i t)))) M) : bc_Call G yX8_tuningTime cX8_tuningTime 3 (some .int) 9 3 [vR G 1 0, vI i, vI t] M post := by
  refine bc_enter (L := [some (vR G 1 0), some (vI i), some (vI t)]) (by decide) rfl rfl ?_
  refine wp_aload_n eX8_tuningTime_0 rfl ?_
  refine cx_X8_125 eX8_tuningTime_1 (ct_needCarousel k1 (fun hc0 => ?_))
  have hL1 : M 1 0 3 = 1 := by omega
  obtain ⟨hsi, hbr, hhn, hhr, hri⟩ := hI hL1
  have hsm := hsi.1
  have hni := hsm.1.2.1
  have hnd := hsm.1.1
  have hls := hsi.2.2.1
  have hpv := BR.pv hsm.1 hbr
  refine wp_aload_n eX8_tuningTime_4 rfl ?_
  refine wp_iload_n eX8_tuningTime_5 rfl ?_
  refine cx_X8_131 eX8_tuningTime_6 (ct_needItem (fun h => k2 hL1 (by omega)) (fun g6a g6b => ?_))
  refine wp_iload_n eX8_tuningTime_9 rfl ?_
  refine wp_iconst eX8_tuningTime_10 ?_
  refine wp_ldci (n := 999999) eX8_tuningTime_11 kc_X8_187 (by decide) ?_
  refine cx_X8_97 eX8_tuningTime_13 (ct_needRange (fun h => k2 hL1 (by omega)) (fun g13a g13b => ?_))
  refine wp_aload_n eX8_tuningTime_16 rfl ?_
  refine gf_X8_51 eX8_tuningTime_17 ?_
  refine wp_iload_n eX8_tuningTime_20 rfl ?_
  refine wp_iload_n eX8_tuningTime_21 rfl ?_
  refine c_X8_216 eX8_tuningTime_22 (ct_listeningFor (by omega) hpv.1 (by omega) (by omega) ?_)
  refine wp_ireturn eX8_tuningTime_25 ?_
  exact k3 hL1 (by omega)
theorem ct_weight {G : bc_G} {M : bc_M} {post : bc_R → bc_M → Prop} {n : Int} {f : Int} (h_f : -2147483648 ≤ f ∧ f < 2147483648) (hl : M 1 0 3 = 0 ∨ M 1 0 3 = 1) (hI : M 1 0 3 = 1 → LI M n) (k1 : M 1 0 3 = 0 → post (.inl "java/lang/IllegalStateException") M) (k2 : M 1 0 3 = 1 → (f < 0 ∨ 99 < f) → post (.inl "java/lang/IllegalArgumentException") M) (k3 : M 1 0 3 = 1 → ¬ ((f < 0 ∨ 99 < f)) → post (.inr (some (vJ (pg_weigh M 0 1 f (M 6 1 3).toNat 0 0)))) M) : bc_Call G yX8_weight cX8_weight 2 (some .long) 9 2 [vR G 1 0, vI f] M post := by
  refine bc_enter (L := [some (vR G 1 0), some (vI f)]) (by decide) rfl rfl ?_
  refine wp_aload_n eX8_weight_0 rfl ?_
  refine cx_X8_125 eX8_weight_1 (ct_needCarousel k1 (fun hc0 => ?_))
  have hL1 : M 1 0 3 = 1 := by omega
  obtain ⟨hsi, hbr, hhn, hhr, hri⟩ := hI hL1
  have hsm := hsi.1
  have hni := hsm.1.2.1
  have hnd := hsm.1.1
  have hls := hsi.2.2.1
  have hpv := BR.pv hsm.1 hbr
  refine wp_iload_n eX8_weight_4 rfl ?_
  refine wp_iconst eX8_weight_5 ?_
  refine wp_bipush eX8_weight_6 ?_
  refine cx_X8_97 eX8_weight_8 (ct_needRange (fun h => k2 hL1 (by omega)) (fun g8a g8b => ?_))
  refine wp_aload_n eX8_weight_11 rfl ?_
  refine gf_X8_51 eX8_weight_12 ?_
  refine wp_aload_n eX8_weight_15 rfl ?_
  refine gf_X8_38 eX8_weight_16 ?_
  refine gf_X8_112 eX8_weight_19 ?_
  refine wp_iload_n eX8_weight_22 rfl ?_
  refine c_X8_224 eX8_weight_23 (ct_weigh (by omega) hpv.1 (by omega) rfl (fun i a b => (hsm.2 i a b).1) (by omega) hpv.2 ?_)
  refine wp_lreturn eX8_weight_26 ?_
  exact k3 hL1 (by omega)
theorem ct_nextTime {G : bc_G} {M : bc_M} {post : bc_R → bc_M → Prop} {n : Int} {i t : Int} (h_i : -2147483648 ≤ i ∧ i < 2147483648) (h_t : -2147483648 ≤ t ∧ t < 2147483648) (hl : M 1 0 3 = 0 ∨ M 1 0 3 = 1) (hI : M 1 0 3 = 1 → LI M n) (k1 : M 1 0 3 = 0 → post (.inl "java/lang/IllegalStateException") M) (k2 : M 1 0 3 = 1 → (i < 0 ∨ M 6 1 3 ≤ i) ∨ (t < 0 ∨ 999999 < t) → post (.inl "java/lang/IllegalArgumentException") M) (k3 : M 1 0 3 = 1 → ¬ ((i < 0 ∨ M 6 1 3 ≤ i) ∨ (t < 0 ∨ 999999 < t)) → post (.inr (some (vI (t + pg_nx M 0 i (t % M 17 0 0) - t % M 17 0 0)))) M) : bc_Call G yX8_nextTime cX8_nextTime 3 (some .int) 9 3 [vR G 1 0, vI i, vI t] M post := by
  refine bc_enter (L := [some (vR G 1 0), some (vI i), some (vI t)]) (by decide) rfl rfl ?_
  refine wp_aload_n eX8_nextTime_0 rfl ?_
  refine cx_X8_125 eX8_nextTime_1 (ct_needCarousel k1 (fun hc0 => ?_))
  have hL1 : M 1 0 3 = 1 := by omega
  obtain ⟨hsi, hbr, hhn, hhr, hri⟩ := hI hL1
  have hsm := hsi.1
  have hni := hsm.1.2.1
  have hnd := hsm.1.1
  have hls := hsi.2.2.1
  have hpv := BR.pv hsm.1 hbr
  refine wp_aload_n eX8_nextTime_4 rfl ?_
  refine wp_iload_n eX8_nextTime_5 rfl ?_
  refine cx_X8_131 eX8_nextTime_6 (ct_needItem (fun h => k2 hL1 (by omega)) (fun g6a g6b => ?_))
  refine wp_iload_n eX8_nextTime_9 rfl ?_
  refine wp_iconst eX8_nextTime_10 ?_
  refine wp_ldci (n := 999999) eX8_nextTime_11 kc_X8_187 (by decide) ?_
  refine cx_X8_97 eX8_nextTime_13 (ct_needRange (fun h => k2 hL1 (by omega)) (fun g13a g13b => ?_))
  refine wp_aload_n eX8_nextTime_16 rfl ?_
  refine gf_X8_51 eX8_nextTime_17 ?_
  refine wp_iload_n eX8_nextTime_20 rfl ?_
  refine wp_iload_n eX8_nextTime_21 rfl ?_
  refine c_X8_206 eX8_nextTime_22 (ct_firstFrom (by omega) (by omega) (by have := (hpv.1.2.2.2.2.2 i (by omega) (by omega)).1; omega) (fun n a b => by have := (hpv.1.2.2.2.2.2 i (by omega) (by omega)).2 n a b; have := hpv.1.1; omega) (by have := (hpv.1.2.2.2.2.2 i (by omega) (by omega)).1; omega) (by have := hpv.1.1; omega) (by omega) ?_)
  refine wp_ireturn eX8_nextTime_25 ?_
  exact k3 hL1 (by omega)
theorem ct_itemValue {G : bc_G} {M : bc_M} {post : bc_R → bc_M → Prop} {n : Int} {i w : Int} (h_i : -2147483648 ≤ i ∧ i < 2147483648) (h_w : -2147483648 ≤ w ∧ w < 2147483648) (hl : M 1 0 3 = 0 ∨ M 1 0 3 = 1) (hI : M 1 0 3 = 1 → LI M n) (k1 : M 1 0 3 = 0 → post (.inl "java/lang/IllegalStateException") M) (k2 : M 1 0 3 = 1 → (i < 0 ∨ M 6 1 3 ≤ i) ∨ (w < 0 ∨ 2 < w) → post (.inl "java/lang/IllegalArgumentException") M) (k3 : M 1 0 3 = 1 → ¬ ((i < 0 ∨ M 6 1 3 ≤ i) ∨ (w < 0 ∨ 2 < w)) → post (.inr (some (vI (if w = 0 then M 8 1 i else if w = 1 then M 9 1 i else M 10 1 i)))) M) : bc_Call G yX8_itemValue cX8_itemValue 3 (some .int) 9 3 [vR G 1 0, vI i, vI w] M post := by
  refine bc_enter (L := [some (vR G 1 0), some (vI i), some (vI w)]) (by decide) rfl rfl ?_
  refine wp_aload_n eX8_itemValue_0 rfl ?_
  refine cx_X8_125 eX8_itemValue_1 (ct_needCarousel k1 (fun hc0 => ?_))
  have hL1 : M 1 0 3 = 1 := by omega
  obtain ⟨hsi, hbr, hhn, hhr, hri⟩ := hI hL1
  have hsm := hsi.1
  have hni := hsm.1.2.1
  have hnd := hsm.1.1
  have hls := hsi.2.2.1
  have hpv := BR.pv hsm.1 hbr
  refine wp_aload_n eX8_itemValue_4 rfl ?_
  refine wp_iload_n eX8_itemValue_5 rfl ?_
  refine cx_X8_131 eX8_itemValue_6 (ct_needItem (fun h => k2 hL1 (by omega)) (fun g6a g6b => ?_))
  refine wp_iload_n eX8_itemValue_9 rfl ?_
  refine wp_iconst eX8_itemValue_10 ?_
  refine wp_iconst eX8_itemValue_11 ?_
  refine cx_X8_97 eX8_itemValue_12 (ct_needRange (fun h => k2 hL1 (by omega)) (fun g12a g12b => ?_))
  refine wp_iload_n eX8_itemValue_15 rfl ?_
  rcases (show w = 0 ∨ w = 1 ∨ w = 2 by omega) with rfl | rfl | rfl
  · refine wp_lookup (off := 28) (tgt := 44) eX8_itemValue_16 (by decide +kernel) (by decide +kernel) (by decide) ?_
    refine wp_aload_n eX8_itemValue_44 rfl ?_
    refine gf_X8_38 eX8_itemValue_45 ?_
    refine gf_X8_112 eX8_itemValue_48 ?_
    refine gf_X8_148 eX8_itemValue_51 ?_
    refine wp_iload_n eX8_itemValue_54 rfl ?_
    refine al_8 eX8_itemValue_55 ?_
    refine wp_ireturn eX8_itemValue_56 ?_
    exact k3 hL1 (by omega)
  · refine wp_lookup (off := 41) (tgt := 57) eX8_itemValue_16 (by decide +kernel) (by decide +kernel) (by decide) ?_
    refine wp_aload_n eX8_itemValue_57 rfl ?_
    refine gf_X8_38 eX8_itemValue_58 ?_
    refine gf_X8_112 eX8_itemValue_61 ?_
    refine gf_X8_170 eX8_itemValue_64 ?_
    refine wp_iload_n eX8_itemValue_67 rfl ?_
    refine al_9 eX8_itemValue_68 ?_
    refine wp_ireturn eX8_itemValue_69 ?_
    exact k3 hL1 (by omega)
  · refine wp_lookup (off := 54) (tgt := 70) eX8_itemValue_16 (by decide +kernel) (by decide +kernel) (by decide) ?_
    refine wp_aload_n eX8_itemValue_70 rfl ?_
    refine gf_X8_38 eX8_itemValue_71 ?_
    refine gf_X8_112 eX8_itemValue_74 ?_
    refine gf_X8_152 eX8_itemValue_77 ?_
    refine wp_iload_n eX8_itemValue_80 rfl ?_
    refine al_10 eX8_itemValue_81 ?_
    refine wp_ireturn eX8_itemValue_82 ?_
    exact k3 hL1 (by omega)
theorem ct_clientValue {G : bc_G} {M : bc_M} {post : bc_R → bc_M → Prop} {n : Int} {c w : Int} (h_c : -2147483648 ≤ c ∧ c < 2147483648) (h_w : -2147483648 ≤ w ∧ w < 2147483648) (hl : M 1 0 3 = 0 ∨ M 1 0 3 = 1) (hI : M 1 0 3 = 1 → LI M n) (k1 : M 1 0 3 = 0 → post (.inl "java/lang/IllegalStateException") M) (k2 : M 1 0 3 = 1 → (c < 0 ∨ M 5 1 1 ≤ c) ∨ (w < 0 ∨ 5 < w) → post (.inl "java/lang/IllegalArgumentException") M) (k3 : M 1 0 3 = 1 → ¬ ((c < 0 ∨ M 5 1 1 ≤ c) ∨ (w < 0 ∨ 5 < w)) → post (.inr (some (vI (if w = 0 then M 12 (4 * 1 + c) 2 else if w = 1 then M 12 (4 * 1 + c) 3 else if w = 2 then M 12 (4 * 1 + c) 4 else if w = 3 then M 12 (4 * 1 + c) 5 else if w = 4 then M 12 (4 * 1 + c) 6 else M 12 (4 * 1 + c) 0)))) M) : bc_Call G yX8_clientValue cX8_clientValue 4 (some .int) 9 3 [vR G 1 0, vI c, vI w] M post := by
  refine bc_enter (L := [some (vR G 1 0), some (vI c), some (vI w), none]) (by decide) rfl rfl ?_
  refine wp_aload_n eX8_clientValue_0 rfl ?_
  refine cx_X8_125 eX8_clientValue_1 (ct_needCarousel k1 (fun hc0 => ?_))
  have hL1 : M 1 0 3 = 1 := by omega
  obtain ⟨hsi, hbr, hhn, hhr, hri⟩ := hI hL1
  have hsm := hsi.1
  have hni := hsm.1.2.1
  have hnd := hsm.1.1
  have hls := hsi.2.2.1
  have hpv := BR.pv hsm.1 hbr
  refine wp_aload_n eX8_clientValue_4 rfl ?_
  refine wp_iload_n eX8_clientValue_5 rfl ?_
  refine cx_X8_128 eX8_clientValue_6 (ct_needClient (fun h => k2 hL1 (by omega)) (fun g6a g6b => ?_))
  refine wp_iload_n eX8_clientValue_9 rfl ?_
  refine wp_iconst eX8_clientValue_10 ?_
  refine wp_iconst eX8_clientValue_11 ?_
  refine cx_X8_97 eX8_clientValue_12 (ct_needRange (fun h => k2 hL1 (by omega)) (fun g12a g12b => ?_))
  refine wp_aload_n eX8_clientValue_15 rfl ?_
  refine gf_X8_38 eX8_clientValue_16 ?_
  refine gf_X8_137 eX8_clientValue_19 ?_
  refine wp_iload_n eX8_clientValue_22 rfl ?_
  refine al_11 eX8_clientValue_23 ?_
  refine ast_3 eX8_clientValue_24 ?_
  refine wp_iload_n eX8_clientValue_25 rfl ?_
  rcases (show w = 0 ∨ w = 1 ∨ w = 2 ∨ w = 3 ∨ w = 4 ∨ w = 5 by omega) with rfl | rfl | rfl | rfl | rfl | rfl
  · refine wp_tableIn (off := 34) (tgt := 60) eX8_clientValue_26 (by decide) (by decide) (by decide +kernel) (by decide) ?_
    refine wp_aload_n eX8_clientValue_60 rfl ?_
    refine gf_X8_145 eX8_clientValue_61 ?_
    refine wp_ireturn eX8_clientValue_64 ?_
    exact k3 hL1 (by omega)
  · refine wp_tableIn (off := 39) (tgt := 65) eX8_clientValue_26 (by decide) (by decide) (by decide +kernel) (by decide) ?_
    refine wp_aload_n eX8_clientValue_65 rfl ?_
    refine gf_X8_281 eX8_clientValue_66 ?_
    refine wp_ireturn eX8_clientValue_69 ?_
    exact k3 hL1 (by omega)
  · refine wp_tableIn (off := 44) (tgt := 70) eX8_clientValue_26 (by decide) (by decide) (by decide +kernel) (by decide) ?_
    refine wp_aload_n eX8_clientValue_70 rfl ?_
    refine gf_X8_284 eX8_clientValue_71 ?_
    refine wp_ireturn eX8_clientValue_74 ?_
    exact k3 hL1 (by omega)
  · refine wp_tableIn (off := 49) (tgt := 75) eX8_clientValue_26 (by decide) (by decide) (by decide +kernel) (by decide) ?_
    refine wp_aload_n eX8_clientValue_75 rfl ?_
    refine gf_X8_287 eX8_clientValue_76 ?_
    refine wp_ireturn eX8_clientValue_79 ?_
    exact k3 hL1 (by omega)
  · refine wp_tableIn (off := 54) (tgt := 80) eX8_clientValue_26 (by decide) (by decide) (by decide +kernel) (by decide) ?_
    refine wp_aload_n eX8_clientValue_80 rfl ?_
    refine gf_X8_290 eX8_clientValue_81 ?_
    refine wp_ireturn eX8_clientValue_84 ?_
    exact k3 hL1 (by omega)
  · refine wp_tableOut (tgt := 85) eX8_clientValue_26 (by decide) (by decide) ?_
    refine wp_aload_n eX8_clientValue_85 rfl ?_
    refine gf_X8_293 eX8_clientValue_86 ?_
    refine wp_ireturn eX8_clientValue_89 ?_
    exact k3 hL1 (by omega)
theorem ct_errorPosition {G : bc_G} {M : bc_M} {post : bc_R → bc_M → Prop} (k : post (.inr (some (vI (M 1 0 2)))) M) : bc_Call G yX8_errorPosition cX8_errorPosition 1 (some .int) 9 0 [vR G 1 0] M post := by
  refine bc_enter (L := [some (vR G 1 0)]) (by decide) rfl rfl ?_
  refine wp_aload_n eX8_errorPosition_0 rfl ?_
  refine gf_X8_17 eX8_errorPosition_1 ?_
  refine wp_ireturn eX8_errorPosition_4 ?_
  exact k
theorem ct_truncate {G : bc_G} {M : bc_M} {post : bc_R → bc_M → Prop} {v : Int} (h_v : -2147483648 ≤ v ∧ v < 2147483648) (ht : 0 ≤ M 1 0 1 ∧ M 1 0 1 ≤ 500) (k2 : (v < 0 ∨ M 1 0 1 < v) → post (.inl "java/lang/IllegalArgumentException") M) (k3 : 0 ≤ v → v ≤ M 1 0 1 → post (.inr (some (vI v))) (bc_up M 1 0 1 v)) : bc_Call G yX8_truncate cX8_truncate 2 (some .int) 9 1 [vR G 1 0, vI v] M post := by
  refine bc_enter (L := [some (vR G 1 0), some (vI v)]) (by decide) rfl rfl ?_
  refine wp_iload_n eX8_truncate_0 rfl ?_
  refine wp_iconst eX8_truncate_1 ?_
  refine wp_aload_n eX8_truncate_2 rfl ?_
  refine gf_X8_13 eX8_truncate_3 ?_
  refine cx_X8_97 eX8_truncate_6 (ct_needRange (fun h => k2 (by omega)) (fun g1 g2 => ?_))
  refine wp_aload_n eX8_truncate_9 rfl ?_
  refine wp_iload_n eX8_truncate_10 rfl ?_
  refine pf_X8_13 eX8_truncate_11 ?_
  refine wp_aload_n eX8_truncate_14 rfl ?_
  refine gf_X8_13 eX8_truncate_15 ?_
  refine wp_ireturn eX8_truncate_18 ?_
  rw [up_v, if_pos rfl]
  exact k3 g1 g2
