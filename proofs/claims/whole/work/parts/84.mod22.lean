theorem ra_rng {v : Int → Int} {i : Int} : ∀ (n : Nat) (o w : Int), 0 ≤ w → 0 ≤ ra v i n o w ∧ ra v i n o w ≤ w + n
  | 0, _, w, h => by simp only [ra]; omega
  | n + 1, o, w, h => by
    simp only [ra]
    by_cases e : rbf v o i = true
    · rw [if_pos e]
      have := ra_rng (v := v) (i := i) n (o + 1) (w + 1) (by omega)
      omega
    · rw [if_neg e]
      have := ra_rng (v := v) (i := i) n (o + 1) w h
      omega
theorem lp_rankedItemA {G : bc_G} {M : bc_M} {post : bc_R → bc_M → Prop} {dk fr pop bnd : Int → Int} {nd ni sg ln : Int} (hs : MS M dk fr pop bnd nd ni sg ln) {i p : Int} (hi : 0 ≤ i ∧ i < ni) : ∀ (n : Nat) (x w : Int) (y : Option Value) (h1 : x + n = ni) (h2 : 0 ≤ x) (k : ∀ y4 y5 : Option Value, bc_W G RX9 cX9_rankedItem 6 (some .int) 1 0 0 74 [some (vR G 33 0), some (vI p), some (vI i), some (vI (ra pop i n x w)), y4, y5] [] M post), bc_W G RX9 cX9_rankedItem 6 (some .int) 1 0 0 15 [some (vR G 33 0), some (vI p), some (vI i), some (vI w), some (vI x), y] [] M post := by
  intro n
  induction n with
  | zero =>
    intro x w y h1 h2 k
    have hni := hs.1.2.1
    have hnd := hs.1.1
    refine wp_iload eX9_rankedItem_15 rfl ?_
    refine wp_aload_n eX9_rankedItem_17 rfl ?_
    refine gf_X9_79 eX9_rankedItem_18 ?_
    rw [hs.2.1.2]
    refine wp_icmp_ge eX9_rankedItem_21 (fun c21 => ?_) (fun c21 => ?_)
    · simp only [ra] at k
      exact k _ _
    · omega
  | succ n ih =>
    intro x w y h1 h2 k
    have hni := hs.1.2.1
    have hnd := hs.1.1
    refine wp_iload eX9_rankedItem_15 rfl ?_
    refine wp_aload_n eX9_rankedItem_17 rfl ?_
    refine gf_X9_79 eX9_rankedItem_18 ?_
    rw [hs.2.1.2]
    refine wp_icmp_ge eX9_rankedItem_21 (fun c21 => ?_) (fun c21 => ?_)
    · omega
    · refine wp_aload_n eX9_rankedItem_24 rfl ?_
      refine gf_X9_7 eX9_rankedItem_25 ?_
      refine wp_iconst eX9_rankedItem_28 ?_
      refine wp_iload eX9_rankedItem_29 rfl ?_
      refine wp_iadd eX9_rankedItem_31 ?_
      refine al_34 eX9_rankedItem_32 ?_
      rw [(hs.2.2.2.2.2.1 x (by omega) (by omega)).1]
      have q1 := (hs.2.2.2.2.2.2 x (by omega) (by omega)).1
      refine wp_aload_n eX9_rankedItem_33 rfl ?_
      refine gf_X9_7 eX9_rankedItem_34 ?_
      refine wp_iconst eX9_rankedItem_37 ?_
      refine wp_iload_n eX9_rankedItem_38 rfl ?_
      refine wp_iadd eX9_rankedItem_39 ?_
      refine al_34 eX9_rankedItem_40 ?_
      rw [(hs.2.2.2.2.2.1 i (by omega) (by omega)).1]
      have q2 := (hs.2.2.2.2.2.2 i (by omega) (by omega)).1
      refine wp_isub eX9_rankedItem_41 ?_
      refine ist_5 eX9_rankedItem_42 ?_
      refine wp_iload_n eX9_rankedItem_44 rfl ?_
      refine wp_iload eX9_rankedItem_45 rfl ?_
      refine wp_if_gt eX9_rankedItem_47 (fun c47 => ?_) (fun c47 => ?_)
      · have hk9 : ra pop i (n + 1) x w = ra pop i n (x + 1) (w + 1) := by
          simp only [ra]
          rw [if_pos (rbf_t.mpr (by omega))]
        rw [hk9] at k
        refine wp_iconst eX9_rankedItem_61 ?_
        refine wp_goto eX9_rankedItem_62 ?_
        refine wp_iadd eX9_rankedItem_66 ?_
        refine ist_3 eX9_rankedItem_67 ?_
        refine inc_4 eX9_rankedItem_68 ?_
        refine wp_goto eX9_rankedItem_71 ?_
        first
        | exact ih (x + 1) _ _ (by omega) (by omega) k
        | (rw [Int.add_zero]; exact ih (x + 1) _ _ (by omega) (by omega) k)
      · refine wp_iload eX9_rankedItem_50 rfl ?_
        refine wp_if_ne eX9_rankedItem_52 (fun c52 => ?_) (fun c52 => ?_)
        · have hk9 : ra pop i (n + 1) x w = ra pop i n (x + 1) w := by
            simp only [ra]
            rw [if_neg (fun q => by rw [rbf_t] at q; omega)]
          rw [hk9] at k
          refine wp_iconst eX9_rankedItem_65 ?_
          refine wp_iadd eX9_rankedItem_66 ?_
          refine ist_3 eX9_rankedItem_67 ?_
          refine inc_4 eX9_rankedItem_68 ?_
          refine wp_goto eX9_rankedItem_71 ?_
          first
          | exact ih (x + 1) _ _ (by omega) (by omega) k
          | (rw [Int.add_zero]; exact ih (x + 1) _ _ (by omega) (by omega) k)
        · refine wp_iload eX9_rankedItem_55 rfl ?_
          refine wp_iload_n eX9_rankedItem_57 rfl ?_
          refine wp_icmp_ge eX9_rankedItem_58 (fun c58 => ?_) (fun c58 => ?_)
          · have hk9 : ra pop i (n + 1) x w = ra pop i n (x + 1) w := by
              simp only [ra]
              rw [if_neg (fun q => by rw [rbf_t] at q; omega)]
            rw [hk9] at k
            refine wp_iconst eX9_rankedItem_65 ?_
            refine wp_iadd eX9_rankedItem_66 ?_
            refine ist_3 eX9_rankedItem_67 ?_
            refine inc_4 eX9_rankedItem_68 ?_
            refine wp_goto eX9_rankedItem_71 ?_
            first
            | exact ih (x + 1) _ _ (by omega) (by omega) k
            | (rw [Int.add_zero]; exact ih (x + 1) _ _ (by omega) (by omega) k)
          · have hk9 : ra pop i (n + 1) x w = ra pop i n (x + 1) (w + 1) := by
              simp only [ra]
              rw [if_pos (rbf_t.mpr (by omega))]
            rw [hk9] at k
            refine wp_iconst eX9_rankedItem_61 ?_
            refine wp_goto eX9_rankedItem_62 ?_
            refine wp_iadd eX9_rankedItem_66 ?_
            refine ist_3 eX9_rankedItem_67 ?_
            refine inc_4 eX9_rankedItem_68 ?_
            refine wp_goto eX9_rankedItem_71 ?_
            first
            | exact ih (x + 1) _ _ (by omega) (by omega) k
            | (rw [Int.add_zero]; exact ih (x + 1) _ _ (by omega) (by omega) k)
theorem lp_rankedItem {G : bc_G} {M : bc_M} {post : bc_R → bc_M → Prop} {dk fr pop bnd : Int → Int} {nd ni sg ln : Int} (hs : MS M dk fr pop bnd nd ni sg ln) {p : Int} (hp : -2147483648 ≤ p ∧ p < 2147483648) : ∀ (n : Nat) (i : Int) (y3 y4 y5 : Option Value) (h1 : i + n = ni) (h2 : 0 ≤ i) (k : post (.inr (some (vI (rf pop ni p n i)))) M), bc_W G RX9 cX9_rankedItem 6 (some .int) 1 0 0 2 [some (vR G 33 0), some (vI p), some (vI i), y3, y4, y5] [] M post := by
  intro n
  induction n with
  | zero =>
    intro i y3 y4 y5 h1 h2 k
    have hni := hs.1.2.1
    have hnd := hs.1.1
    refine wp_iload_n eX9_rankedItem_2 rfl ?_
    refine wp_aload_n eX9_rankedItem_3 rfl ?_
    refine gf_X9_79 eX9_rankedItem_4 ?_
    rw [hs.2.1.2]
    refine wp_icmp_ge eX9_rankedItem_7 (fun c7 => ?_) (fun c7 => ?_)
    · simp only [rf] at k
      refine wp_iconst eX9_rankedItem_87 ?_
      refine wp_ireturn eX9_rankedItem_88 ?_
      exact k
    · omega
  | succ n ih =>
    intro i y3 y4 y5 h1 h2 k
    have hni := hs.1.2.1
    have hnd := hs.1.1
    refine wp_iload_n eX9_rankedItem_2 rfl ?_
    refine wp_aload_n eX9_rankedItem_3 rfl ?_
    refine gf_X9_79 eX9_rankedItem_4 ?_
    rw [hs.2.1.2]
    refine wp_icmp_ge eX9_rankedItem_7 (fun c7 => ?_) (fun c7 => ?_)
    · omega
    · refine wp_iconst eX9_rankedItem_10 ?_
      refine ist_3 eX9_rankedItem_11 ?_
      refine wp_iconst eX9_rankedItem_12 ?_
      refine ist_4 eX9_rankedItem_13 ?_
      refine lp_rankedItemA hs (by omega) ni.toNat 0 0 _ (by omega) (by omega) (fun y4 y5 => ?_)
      have hrr := ra_rng (v := pop) (i := i) ni.toNat 0 0 (by omega)
      refine wp_iload_n eX9_rankedItem_74 rfl ?_
      refine wp_iload_n eX9_rankedItem_75 rfl ?_
      refine wp_icmp_ne eX9_rankedItem_76 (fun c76 => ?_) (fun c76 => ?_)
      · have hk9 : rf pop ni p (n + 1) i = rf pop ni p n (i + 1) := by
          simp only [rf]
          rw [if_neg c76]
        rw [hk9] at k
        refine inc_2 eX9_rankedItem_81 ?_
        refine wp_goto eX9_rankedItem_84 ?_
        exact ih (i + 1) _ _ _ (by omega) (by omega) k
      · have hk9 : rf pop ni p (n + 1) i = i := by
          simp only [rf]
          rw [if_pos (by omega)]
        rw [hk9] at k
        refine wp_iload_n eX9_rankedItem_79 rfl ?_
        refine wp_ireturn eX9_rankedItem_80 ?_
        exact k
theorem ct_rankedItem {G : bc_G} {M : bc_M} {post : bc_R → bc_M → Prop} {dk fr pop bnd : Int → Int} {nd ni sg ln : Int} (hs : MS M dk fr pop bnd nd ni sg ln) {p : Int} (hp : -2147483648 ≤ p ∧ p < 2147483648) (k : post (.inr (some (vI (rf pop ni p ni.toNat 0)))) M) : bc_Call G yX9_rankedItem cX9_rankedItem 6 (some .int) 1 0 [vR G 33 0, vI p] M post := by
  refine bc_enter (L := [some (vR G 33 0), some (vI p), none, none, none, none]) (by decide) rfl rfl ?_
  refine wp_iconst eX9_rankedItem_0 ?_
  refine ist_2 eX9_rankedItem_1 ?_
  exact lp_rankedItem hs hp ni.toNat 0 none none none (by have := hs.1.2.1; have := hs.1.1; omega) (by omega) k
theorem lp_rankedDiskA {G : bc_G} {M : bc_M} {post : bc_R → bc_M → Prop} {dk fr pop bnd : Int → Int} {nd ni sg ln : Int} (hs : MS M dk fr pop bnd nd ni sg ln) {i p : Int} (hi : 0 ≤ i ∧ i < nd) : ∀ (n : Nat) (x w : Int) (y : Option Value) (h1 : x + n = nd) (h2 : 0 ≤ x) (k : ∀ y4 y5 : Option Value, bc_W G RX9 cX9_rankedDisk 6 (some .int) 1 0 0 76 [some (vR G 33 0), some (vI p), some (vI i), some (vI (ra fr i n x w)), y4, y5] [] M post), bc_W G RX9 cX9_rankedDisk 6 (some .int) 1 0 0 15 [some (vR G 33 0), some (vI p), some (vI i), some (vI w), some (vI x), y] [] M post := by
  intro n
  induction n with
  | zero =>
    intro x w y h1 h2 k
    have hni := hs.1.2.1
    have hnd := hs.1.1
    refine wp_iload eX9_rankedDisk_15 rfl ?_
    refine wp_aload_n eX9_rankedDisk_17 rfl ?_
    refine gf_X9_72 eX9_rankedDisk_18 ?_
    rw [hs.2.1.1]
    refine wp_icmp_ge eX9_rankedDisk_21 (fun c21 => ?_) (fun c21 => ?_)
    · simp only [ra] at k
      exact k _ _
    · omega
  | succ n ih =>
    intro x w y h1 h2 k
    have hni := hs.1.2.1
    have hnd := hs.1.1
    refine wp_iload eX9_rankedDisk_15 rfl ?_
    refine wp_aload_n eX9_rankedDisk_17 rfl ?_
    refine gf_X9_72 eX9_rankedDisk_18 ?_
    rw [hs.2.1.1]
    refine wp_icmp_ge eX9_rankedDisk_21 (fun c21 => ?_) (fun c21 => ?_)
    · omega
    · refine wp_aload_n eX9_rankedDisk_24 rfl ?_
      refine gf_X9_7 eX9_rankedDisk_25 ?_
      refine wp_bipush eX9_rankedDisk_28 ?_
      refine wp_iload eX9_rankedDisk_30 rfl ?_
      refine wp_iadd eX9_rankedDisk_32 ?_
      refine al_34 eX9_rankedDisk_33 ?_
      rw [hs.2.2.2.1 x (by omega) (by omega)]
      have q1 := hs.1.2.2.2.2.1 x (by omega) (by omega)
      refine wp_aload_n eX9_rankedDisk_34 rfl ?_
      refine gf_X9_7 eX9_rankedDisk_35 ?_
      refine wp_bipush eX9_rankedDisk_38 ?_
      refine wp_iload_n eX9_rankedDisk_40 rfl ?_
      refine wp_iadd eX9_rankedDisk_41 ?_
      refine al_34 eX9_rankedDisk_42 ?_
      rw [hs.2.2.2.1 i (by omega) (by omega)]
      have q2 := hs.1.2.2.2.2.1 i (by omega) (by omega)
      refine wp_isub eX9_rankedDisk_43 ?_
      refine ist_5 eX9_rankedDisk_44 ?_
      refine wp_iload_n eX9_rankedDisk_46 rfl ?_
      refine wp_iload eX9_rankedDisk_47 rfl ?_
      refine wp_if_gt eX9_rankedDisk_49 (fun c49 => ?_) (fun c49 => ?_)
      · have hk9 : ra fr i (n + 1) x w = ra fr i n (x + 1) (w + 1) := by
          simp only [ra]
          rw [if_pos (rbf_t.mpr (by omega))]
        rw [hk9] at k
        refine wp_iconst eX9_rankedDisk_63 ?_
        refine wp_goto eX9_rankedDisk_64 ?_
        refine wp_iadd eX9_rankedDisk_68 ?_
        refine ist_3 eX9_rankedDisk_69 ?_
        refine inc_4 eX9_rankedDisk_70 ?_
        refine wp_goto eX9_rankedDisk_73 ?_
        first
        | exact ih (x + 1) _ _ (by omega) (by omega) k
        | (rw [Int.add_zero]; exact ih (x + 1) _ _ (by omega) (by omega) k)
      · refine wp_iload eX9_rankedDisk_52 rfl ?_
        refine wp_if_ne eX9_rankedDisk_54 (fun c54 => ?_) (fun c54 => ?_)
        · have hk9 : ra fr i (n + 1) x w = ra fr i n (x + 1) w := by
            simp only [ra]
            rw [if_neg (fun q => by rw [rbf_t] at q; omega)]
          rw [hk9] at k
          refine wp_iconst eX9_rankedDisk_67 ?_
          refine wp_iadd eX9_rankedDisk_68 ?_
          refine ist_3 eX9_rankedDisk_69 ?_
          refine inc_4 eX9_rankedDisk_70 ?_
          refine wp_goto eX9_rankedDisk_73 ?_
          first
          | exact ih (x + 1) _ _ (by omega) (by omega) k
          | (rw [Int.add_zero]; exact ih (x + 1) _ _ (by omega) (by omega) k)
        · refine wp_iload eX9_rankedDisk_57 rfl ?_
          refine wp_iload_n eX9_rankedDisk_59 rfl ?_
          refine wp_icmp_ge eX9_rankedDisk_60 (fun c60 => ?_) (fun c60 => ?_)
          · have hk9 : ra fr i (n + 1) x w = ra fr i n (x + 1) w := by
              simp only [ra]
              rw [if_neg (fun q => by rw [rbf_t] at q; omega)]
            rw [hk9] at k
            refine wp_iconst eX9_rankedDisk_67 ?_
            refine wp_iadd eX9_rankedDisk_68 ?_
            refine ist_3 eX9_rankedDisk_69 ?_
            refine inc_4 eX9_rankedDisk_70 ?_
            refine wp_goto eX9_rankedDisk_73 ?_
            first
            | exact ih (x + 1) _ _ (by omega) (by omega) k
            | (rw [Int.add_zero]; exact ih (x + 1) _ _ (by omega) (by omega) k)
          · have hk9 : ra fr i (n + 1) x w = ra fr i n (x + 1) (w + 1) := by
              simp only [ra]
              rw [if_pos (rbf_t.mpr (by omega))]
            rw [hk9] at k
            refine wp_iconst eX9_rankedDisk_63 ?_
            refine wp_goto eX9_rankedDisk_64 ?_
            refine wp_iadd eX9_rankedDisk_68 ?_
            refine ist_3 eX9_rankedDisk_69 ?_
            refine inc_4 eX9_rankedDisk_70 ?_
            refine wp_goto eX9_rankedDisk_73 ?_
            first
            | exact ih (x + 1) _ _ (by omega) (by omega) k
            | (rw [Int.add_zero]; exact ih (x + 1) _ _ (by omega) (by omega) k)
theorem lp_rankedDisk {G : bc_G} {M : bc_M} {post : bc_R → bc_M → Prop} {dk fr pop bnd : Int → Int} {nd ni sg ln : Int} (hs : MS M dk fr pop bnd nd ni sg ln) {p : Int} (hp : -2147483648 ≤ p ∧ p < 2147483648) : ∀ (n : Nat) (i : Int) (y3 y4 y5 : Option Value) (h1 : i + n = nd) (h2 : 0 ≤ i) (k : post (.inr (some (vI (rf fr nd p n i)))) M), bc_W G RX9 cX9_rankedDisk 6 (some .int) 1 0 0 2 [some (vR G 33 0), some (vI p), some (vI i), y3, y4, y5] [] M post := by
  intro n
  induction n with
  | zero =>
    intro i y3 y4 y5 h1 h2 k
    have hni := hs.1.2.1
    have hnd := hs.1.1
    refine wp_iload_n eX9_rankedDisk_2 rfl ?_
    refine wp_aload_n eX9_rankedDisk_3 rfl ?_
    refine gf_X9_72 eX9_rankedDisk_4 ?_
    rw [hs.2.1.1]
    refine wp_icmp_ge eX9_rankedDisk_7 (fun c7 => ?_) (fun c7 => ?_)
    · simp only [rf] at k
      refine wp_iconst eX9_rankedDisk_89 ?_
      refine wp_ireturn eX9_rankedDisk_90 ?_
      exact k
    · omega
  | succ n ih =>
    intro i y3 y4 y5 h1 h2 k
    have hni := hs.1.2.1
    have hnd := hs.1.1
    refine wp_iload_n eX9_rankedDisk_2 rfl ?_
    refine wp_aload_n eX9_rankedDisk_3 rfl ?_
    refine gf_X9_72 eX9_rankedDisk_4 ?_
    rw [hs.2.1.1]
    refine wp_icmp_ge eX9_rankedDisk_7 (fun c7 => ?_) (fun c7 => ?_)
    · omega
    · refine wp_iconst eX9_rankedDisk_10 ?_
      refine ist_3 eX9_rankedDisk_11 ?_
      refine wp_iconst eX9_rankedDisk_12 ?_
      refine ist_4 eX9_rankedDisk_13 ?_
      refine lp_rankedDiskA hs (by omega) nd.toNat 0 0 _ (by omega) (by omega) (fun y4 y5 => ?_)
      have hrr := ra_rng (v := fr) (i := i) nd.toNat 0 0 (by omega)
      refine wp_iload_n eX9_rankedDisk_76 rfl ?_
      refine wp_iload_n eX9_rankedDisk_77 rfl ?_
      refine wp_icmp_ne eX9_rankedDisk_78 (fun c78 => ?_) (fun c78 => ?_)
      · have hk9 : rf fr nd p (n + 1) i = rf fr nd p n (i + 1) := by
          simp only [rf]
          rw [if_neg c78]
        rw [hk9] at k
        refine inc_2 eX9_rankedDisk_83 ?_
        refine wp_goto eX9_rankedDisk_86 ?_
        exact ih (i + 1) _ _ _ (by omega) (by omega) k
      · have hk9 : rf fr nd p (n + 1) i = i := by
          simp only [rf]
          rw [if_pos (by omega)]
        rw [hk9] at k
        refine wp_iload_n eX9_rankedDisk_81 rfl ?_
        refine wp_ireturn eX9_rankedDisk_82 ?_
        exact k
theorem ct_rankedDisk {G : bc_G} {M : bc_M} {post : bc_R → bc_M → Prop} {dk fr pop bnd : Int → Int} {nd ni sg ln : Int} (hs : MS M dk fr pop bnd nd ni sg ln) {p : Int} (hp : -2147483648 ≤ p ∧ p < 2147483648) (k : post (.inr (some (vI (rf fr nd p nd.toNat 0)))) M) : bc_Call G yX9_rankedDisk cX9_rankedDisk 6 (some .int) 1 0 [vR G 33 0, vI p] M post := by
  refine bc_enter (L := [some (vR G 33 0), some (vI p), none, none, none, none]) (by decide) rfl rfl ?_
  refine wp_iconst eX9_rankedDisk_0 ?_
  refine ist_2 eX9_rankedDisk_1 ?_
  exact lp_rankedDisk hs hp nd.toNat 0 none none none (by have := hs.1.2.1; have := hs.1.1; omega) (by omega) k
theorem rf_rng (v : Int → Int) (N p : Int) : ∀ (n : Nat) (i : Int), 0 ≤ i → -1 ≤ rf v N p n i ∧ rf v N p n i < i + n ∨ rf v N p n i = -1
  | 0, _, _ => Or.inr rfl
  | n + 1, i, h => by
    simp only [rf]
    by_cases e : ra v i N.toNat 0 0 = p
    · rw [if_pos e]; omega
    · rw [if_neg e]
      have := rf_rng v N p n (i + 1) (by omega)
      omega
theorem ct_mItemRank {G : bc_G} {M : bc_M} {post : bc_R → bc_M → Prop} {p : Int} {dk fr pop bnd : Int → Int} {nd ni sg ln : Int} (hI : M 33 0 3 = 1 → MS M dk fr pop bnd nd ni sg ln) (hl : M 33 0 3 = 0 ∨ M 33 0 3 = 1) (k1 : M 33 0 3 = 0 → post (.inr (some (vI 0))) (bc_up M 33 0 4 1)) (k2 : M 33 0 3 = 1 → p < 0 → post (.inr (some (vI 0))) (bc_up M 33 0 4 2)) (k3 : M 33 0 3 = 1 → 0 ≤ p → rf pop ni p ni.toNat 0 ≠ -1 → post (.inr (some (vI (rf pop ni p ni.toNat 0)))) (bc_up M 33 0 4 0)) (k4 : M 33 0 3 = 1 → 0 ≤ p → rf pop ni p ni.toNat 0 = -1 → post (.inr (some (vI 0))) (bc_up M 33 0 4 3)) (ha : 0 ≤ M 33 0 2 ∧ M 33 0 2 ≤ 10) (hit : 0 ≤ M 33 0 6 ∧ M 33 0 6 ≤ 16) (hdi : 0 ≤ M 33 0 5 ∧ M 33 0 5 ≤ 4) (hcl : 0 ≤ M 33 0 7 ∧ M 33 0 7 ≤ 4) (h_p : -2147483648 ≤ p ∧ p < 2147483648 := by omega) : bc_Call G yX9_itemRank cX9_itemRank 3 (some .int) 12 0 [vR G 33 0, vI p] M post := by
  refine bc_enter (L := [some (vR G 33 0), some (vI p), none]) (by decide) rfl rfl ?_
  refine wp_aload_n eX9_itemRank_0 rfl ?_
  refine wp_iload_n eX9_itemRank_1 rfl ?_
  refine wp_if_lt eX9_itemRank_2 (fun c2 => ?_) (fun c2 => ?_)
  · refine wp_iconst eX9_itemRank_9 ?_
    refine c_X9_201 eX9_itemRank_10 (ct_mIsWrong ?_)
    rcases hl with hl0 | hl1
    · rw [show mo_thr M 0 = 1 by unfold mo_thr; rw [if_pos hl0]]
      refine wp_if_eq eX9_itemRank_13 (fun c13 => ?_) (fun c13 => ?_)
      · exact absurd c13 (by decide)
      · refine wp_iconst eX9_itemRank_16 ?_
        refine wp_ireturn eX9_itemRank_17 ?_
        exact k1 hl0
    · rw [show mo_thr M 0 = 2 by unfold mo_thr; rw [if_neg (by omega), if_pos rfl]]
      refine wp_if_eq eX9_itemRank_13 (fun c13 => ?_) (fun c13 => ?_)
      · exact absurd c13 (by decide)
      · refine wp_iconst eX9_itemRank_16 ?_
        refine wp_ireturn eX9_itemRank_17 ?_
        exact k2 hl1 (by omega)
  · refine wp_iconst eX9_itemRank_5 ?_
    refine wp_goto eX9_itemRank_6 ?_
    refine c_X9_201 eX9_itemRank_10 (ct_mIsWrong ?_)
    rcases hl with hl0 | hl1
    · rw [show mo_thr M 1 = 1 by unfold mo_thr; rw [if_pos hl0]]
      refine wp_if_eq eX9_itemRank_13 (fun c13 => ?_) (fun c13 => ?_)
      · exact absurd c13 (by decide)
      · refine wp_iconst eX9_itemRank_16 ?_
        refine wp_ireturn eX9_itemRank_17 ?_
        exact k1 hl0
    · rw [show mo_thr M 1 = 0 by unfold mo_thr; rw [if_neg (by omega), if_neg (by decide)]]
      have hs0 := up_ms (f := 4) (v := 0) (hI hl1) (by decide) (by decide)
      have hs9 := hI hl1
      have hni := hs0.1.2.1
      have hnd := hs0.1.1
      have e6 := hs9.2.1.2
      have e5 := hs9.2.1.1
      refine wp_if_eq eX9_itemRank_13 (fun c13 => ?_) (fun c13 => ?_)
      · refine wp_aload_n eX9_itemRank_18 rfl ?_
        refine wp_iload_n eX9_itemRank_19 rfl ?_
        refine c_X9_338 eX9_itemRank_20 (ct_rankedItem hs0 (by omega) ?_)
        have hrr := rf_rng pop ni p ni.toNat 0 (by omega)
        refine ist_2 eX9_itemRank_23 ?_
        refine wp_aload_n eX9_itemRank_24 rfl ?_
        refine wp_iload_n eX9_itemRank_25 rfl ?_
        refine wp_iconst eX9_itemRank_26 ?_
        refine wp_icmp_ne eX9_itemRank_27 (fun c27 => ?_) (fun c27 => ?_)
        · refine wp_iconst eX9_itemRank_34 ?_
          refine pf_X9_65 eX9_itemRank_35 ?_
          refine wp_iload_n eX9_itemRank_38 rfl ?_
          refine wp_iconst eX9_itemRank_39 ?_
          refine wp_icmp_ne eX9_itemRank_40 (fun c40 => ?_) (fun c40 => ?_)
          · refine wp_iload_n eX9_itemRank_47 rfl ?_
            refine wp_ireturn eX9_itemRank_48 ?_
            rw [up_up]
            exact k3 hl1 (by omega) (by omega)
          · omega
        · refine wp_iconst eX9_itemRank_30 ?_
          refine wp_goto eX9_itemRank_31 ?_
          refine pf_X9_65 eX9_itemRank_35 ?_
          refine wp_iload_n eX9_itemRank_38 rfl ?_
          refine wp_iconst eX9_itemRank_39 ?_
          refine wp_icmp_ne eX9_itemRank_40 (fun c40 => ?_) (fun c40 => ?_)
          · omega
          · refine wp_iconst eX9_itemRank_43 ?_
            refine wp_goto eX9_itemRank_44 ?_
            refine wp_ireturn eX9_itemRank_48 ?_
            rw [up_up]
            exact k4 hl1 (by omega) (by omega)
      · exact absurd (by decide) c13
theorem ct_mDiskRank {G : bc_G} {M : bc_M} {post : bc_R → bc_M → Prop} {p : Int} {dk fr pop bnd : Int → Int} {nd ni sg ln : Int} (hI : M 33 0 3 = 1 → MS M dk fr pop bnd nd ni sg ln) (hl : M 33 0 3 = 0 ∨ M 33 0 3 = 1) (k1 : M 33 0 3 = 0 → post (.inr (some (vI 0))) (bc_up M 33 0 4 1)) (k2 : M 33 0 3 = 1 → p < 0 → post (.inr (some (vI 0))) (bc_up M 33 0 4 2)) (k3 : M 33 0 3 = 1 → 0 ≤ p → rf fr nd p nd.toNat 0 ≠ -1 → post (.inr (some (vI (rf fr nd p nd.toNat 0)))) (bc_up M 33 0 4 0)) (k4 : M 33 0 3 = 1 → 0 ≤ p → rf fr nd p nd.toNat 0 = -1 → post (.inr (some (vI 0))) (bc_up M 33 0 4 3)) (ha : 0 ≤ M 33 0 2 ∧ M 33 0 2 ≤ 10) (hit : 0 ≤ M 33 0 6 ∧ M 33 0 6 ≤ 16) (hdi : 0 ≤ M 33 0 5 ∧ M 33 0 5 ≤ 4) (hcl : 0 ≤ M 33 0 7 ∧ M 33 0 7 ≤ 4) (h_p : -2147483648 ≤ p ∧ p < 2147483648 := by omega) : bc_Call G yX9_diskRank cX9_diskRank 3 (some .int) 12 0 [vR G 33 0, vI p] M post := by
  refine bc_enter (L := [some (vR G 33 0), some (vI p), none]) (by decide) rfl rfl ?_
  refine wp_aload_n eX9_diskRank_0 rfl ?_
  refine wp_iload_n eX9_diskRank_1 rfl ?_
  refine wp_if_lt eX9_diskRank_2 (fun c2 => ?_) (fun c2 => ?_)
  · refine wp_iconst eX9_diskRank_9 ?_
    refine c_X9_201 eX9_diskRank_10 (ct_mIsWrong ?_)
    rcases hl with hl0 | hl1
    · rw [show mo_thr M 0 = 1 by unfold mo_thr; rw [if_pos hl0]]
      refine wp_if_eq eX9_diskRank_13 (fun c13 => ?_) (fun c13 => ?_)
      · exact absurd c13 (by decide)
      · refine wp_iconst eX9_diskRank_16 ?_
        refine wp_ireturn eX9_diskRank_17 ?_
        exact k1 hl0
    · rw [show mo_thr M 0 = 2 by unfold mo_thr; rw [if_neg (by omega), if_pos rfl]]
      refine wp_if_eq eX9_diskRank_13 (fun c13 => ?_) (fun c13 => ?_)
      · exact absurd c13 (by decide)
      · refine wp_iconst eX9_diskRank_16 ?_
        refine wp_ireturn eX9_diskRank_17 ?_
        exact k2 hl1 (by omega)
  · refine wp_iconst eX9_diskRank_5 ?_
    refine wp_goto eX9_diskRank_6 ?_
    refine c_X9_201 eX9_diskRank_10 (ct_mIsWrong ?_)
    rcases hl with hl0 | hl1
    · rw [show mo_thr M 1 = 1 by unfold mo_thr; rw [if_pos hl0]]
      refine wp_if_eq eX9_diskRank_13 (fun c13 => ?_) (fun c13 => ?_)
      · exact absurd c13 (by decide)
      · refine wp_iconst eX9_diskRank_16 ?_
        refine wp_ireturn eX9_diskRank_17 ?_
        exact k1 hl0
    · rw [show mo_thr M 1 = 0 by unfold mo_thr; rw [if_neg (by omega), if_neg (by decide)]]
      have hs0 := up_ms (f := 4) (v := 0) (hI hl1) (by decide) (by decide)
      have hs9 := hI hl1
      have hni := hs0.1.2.1
      have hnd := hs0.1.1
      have e6 := hs9.2.1.2
      have e5 := hs9.2.1.1
      refine wp_if_eq eX9_diskRank_13 (fun c13 => ?_) (fun c13 => ?_)
      · refine wp_aload_n eX9_diskRank_18 rfl ?_
        refine wp_iload_n eX9_diskRank_19 rfl ?_
        refine c_X9_315 eX9_diskRank_20 (ct_rankedDisk hs0 (by omega) ?_)
        have hrr := rf_rng fr nd p nd.toNat 0 (by omega)
        refine ist_2 eX9_diskRank_23 ?_
        refine wp_aload_n eX9_diskRank_24 rfl ?_
        refine wp_iload_n eX9_diskRank_25 rfl ?_
        refine wp_iconst eX9_diskRank_26 ?_
        refine wp_icmp_ne eX9_diskRank_27 (fun c27 => ?_) (fun c27 => ?_)
        · refine wp_iconst eX9_diskRank_34 ?_
          refine pf_X9_65 eX9_diskRank_35 ?_
          refine wp_iload_n eX9_diskRank_38 rfl ?_
          refine wp_iconst eX9_diskRank_39 ?_
          refine wp_icmp_ne eX9_diskRank_40 (fun c40 => ?_) (fun c40 => ?_)
          · refine wp_iload_n eX9_diskRank_47 rfl ?_
            refine wp_ireturn eX9_diskRank_48 ?_
            rw [up_up]
            exact k3 hl1 (by omega) (by omega)
          · omega
        · refine wp_iconst eX9_diskRank_30 ?_
          refine wp_goto eX9_diskRank_31 ?_
          refine pf_X9_65 eX9_diskRank_35 ?_
          refine wp_iload_n eX9_diskRank_38 rfl ?_
          refine wp_iconst eX9_diskRank_39 ?_
          refine wp_icmp_ne eX9_diskRank_40 (fun c40 => ?_) (fun c40 => ?_)
          · omega
          · refine wp_iconst eX9_diskRank_43 ?_
            refine wp_goto eX9_diskRank_44 ?_
            refine wp_ireturn eX9_diskRank_48 ?_
            rw [up_up]
            exact k4 hl1 (by omega) (by omega)
      · exact absurd (by decide) c13
def ma_in (it : Int → Int) (d : Int) : Nat → Int → (Int → Int) → (Int → Int)
  | 0, _, dk => dk
  | n + 1, p, dk => ma_in it d n (p + 1) (bc_u dk (it p) d)
def ma_out (it dd sz : Int → Int) : Nat → Int → Int → (Int → Int) → (Int → Int)
  | 0, _, _, dk => dk
  | n + 1, t, p, dk => ma_out it dd sz n (t + 1) (p + sz t) (ma_in it (dd t) (sz t).toNat p dk)
/-- nothing but the disks changes -/
def LK (M M' : bc_M) (dk : Int → Int) : Prop := Fr (fun k' j' => k' = 34 ∧ j' = 0) M M' ∧ M' 34 0 = cpF (M 34 0) dk 16 16
theorem LK.up {M M1 : bc_M} {dk : Int → Int} {i v : Int} (h : LK M M1 dk) (hi : 0 ≤ i ∧ i < 16) : LK M (bc_up M1 34 0 (16 + i) v) (bc_u dk i v) := by
  refine ⟨Fr.tr h.1 (Fr.up ⟨rfl, rfl⟩), ?_⟩
  rw [up_at, h.2]
  funext q
  by_cases hq : q = 16 + i
  · rw [hq, u_at]
    unfold cpF
    rw [if_pos (by omega), show 16 + i - 16 = i by omega, u_at]
  · rw [u_ne hq]
    unfold cpF
    by_cases h1 : 16 ≤ q ∧ q < 16 + 16
    · rw [if_pos h1, if_pos h1, u_ne (by omega)]
    · rw [if_neg h1, if_neg h1]
theorem LK.rf {M : bc_M} {dk : Int → Int} (e : ∀ i, 0 ≤ i → i < 16 → M 34 0 (16 + i) = dk i) : LK M M dk := by
  refine ⟨Fr.rf, ?_⟩
  funext q
  unfold cpF
  by_cases h : 16 ≤ q ∧ q < 16 + 16
  · rw [if_pos h, ← e (q - 16) (by omega) (by omega), show 16 + (q - 16) = q by omega]
  · rw [if_neg h]
theorem lp_asg46i {G : bc_G} {post : bc_R → bc_M → Prop} {fr pop bnd : Int → Int} {nd ni sg ln kk : Int} {it sz : Int → Int} {M0 : bc_M} (hkk : 1 ≤ kk ∧ kk ≤ nd) (eit : M0 45 0 = it) (hit : ∀ p, 0 ≤ p → p < ni → 0 ≤ it p ∧ it p < ni) (esz : M0 46 0 = sz) (hsz : ∀ t, 0 ≤ t → t < kk → 0 ≤ sz t ∧ sz t ≤ 16) {t d : Int} (ht : 0 ≤ t ∧ t < kk) (hd : 0 ≤ d ∧ d < nd) : ∀ (n : Nat) (p x : Int) (dk : Int → Int) (Mc : bc_M) (h1 : x + n = sz t) (h2 : 0 ≤ x) (h3 : 0 ≤ p ∧ p + n ≤ ni) (hK : LK M0 Mc dk) (hms : MS Mc dk fr pop bnd nd ni sg ln) (k : ∀ M' : bc_M, LK M0 M' (ma_in it d n p dk) → MS M' (ma_in it d n p dk) fr pop bnd nd ni sg ln → bc_W G RX9 cX9_assign 7 none 2 0 0 56 [some (vR G 33 0), some (vR G 46 0), some (vI kk), some (vI (p + n)), some (vI t), some (vI d), some (vI (sz t))] [] M' post), bc_W G RX9 cX9_assign 7 none 2 0 0 22 [some (vR G 33 0), some (vR G 46 0), some (vI kk), some (vI p), some (vI t), some (vI d), some (vI x)] [] Mc post := by
  intro n
  induction n with
  | zero =>
    intro p x dk Mc h1 h2 h3 hK hms k
    have hszt := hsz t ht.1 ht.2
    have hni := hms.1.2.1
    have hnd := hms.1.1
    refine wp_iload eX9_assign_22 rfl ?_
    refine wp_aload_n eX9_assign_24 rfl ?_
    refine wp_iload eX9_assign_25 rfl ?_
    refine al_46 eX9_assign_27 ?_
    rw [hK.1 46 0 (by omega), esz]
    refine wp_icmp_ge eX9_assign_28 (fun c28 => ?_) (fun c28 => ?_)
    · have hx : x = sz t := by omega
      subst hx
      have e0 : p + ((0 : Nat) : Int) = p := by omega
      have k9 := k Mc hK hms
      rw [e0] at k9
      exact k9
    · omega
  | succ n ih =>
    intro p x dk Mc h1 h2 h3 hK hms k
    have hszt := hsz t ht.1 ht.2
    have hni := hms.1.2.1
    have hnd := hms.1.1
    refine wp_iload eX9_assign_22 rfl ?_
    refine wp_aload_n eX9_assign_24 rfl ?_
    refine wp_iload eX9_assign_25 rfl ?_
    refine al_46 eX9_assign_27 ?_
    rw [hK.1 46 0 (by omega), esz]
    refine wp_icmp_ge eX9_assign_28 (fun c28 => ?_) (fun c28 => ?_)
    · omega
    · refine wp_aload_n eX9_assign_31 rfl ?_
      refine gf_X9_7 eX9_assign_32 ?_
      refine wp_bipush eX9_assign_35 ?_
      refine wp_aload_n eX9_assign_37 rfl ?_
      refine gf_X9_47 eX9_assign_38 ?_
      refine wp_iload_n eX9_assign_41 rfl ?_
      refine al_45 eX9_assign_42 ?_
      rw [hK.1 45 0 (by omega), eit]
      have hip := hit p (by omega) (by omega)
      refine wp_iadd eX9_assign_43 ?_
      refine wp_iload eX9_assign_44 rfl ?_
      refine as_34 eX9_assign_46 ?_
      refine inc_3 eX9_assign_47 ?_
      refine inc_6 eX9_assign_50 ?_
      refine wp_goto eX9_assign_53 ?_
      refine ih (p + 1) (x + 1) _ _ (by omega) (by omega) (by omega) (hK.up (by omega)) (hms.up16 (by omega) hd) (fun M' a b => ?_)
      have k9 := k M' a b
      rw [show p + ((n + 1 : Nat) : Int) = p + 1 + n by omega] at k9
      exact k9
def sp_from (sz : Int → Int) : Nat → Int → Int
  | 0, _ => 0
  | n + 1, t => sz t + sp_from sz n (t + 1)
theorem sp_from_nn {sz : Int → Int} {kk : Int} (h : ∀ q, 0 ≤ q → q < kk → 0 ≤ sz q) : ∀ (n : Nat) (t : Int), 0 ≤ t → t + n ≤ kk → 0 ≤ sp_from sz n t
  | 0, _, _, _ => by simp only [sp_from]; omega
  | n + 1, t, a, b => by
    simp only [sp_from]
    have := h t a (by omega)
    have := sp_from_nn h n (t + 1) (by omega) (by omega)
    omega
theorem lp_asg46 {G : bc_G} {post : bc_R → bc_M → Prop} {fr pop bnd : Int → Int} {nd ni sg ln kk : Int} {it sz : Int → Int} {M0 : bc_M} (hkk : 1 ≤ kk ∧ kk ≤ nd) (eit : M0 45 0 = it) (hit : ∀ p, 0 ≤ p → p < ni → 0 ≤ it p ∧ it p < ni) (esz : M0 46 0 = sz) (hsz : ∀ t, 0 ≤ t → t < kk → 0 ≤ sz t ∧ sz t ≤ 16) : ∀ (n : Nat) (t p : Int) (dk : Int → Int) (Mc : bc_M) (y5 y6 : Option Value) (h1 : t + n = kk) (h2 : 0 ≤ t) (h3 : 0 ≤ p) (hsum : p + sp_from sz n t ≤ ni) (hK : LK M0 Mc dk) (hms : MS Mc dk fr pop bnd nd ni sg ln) (k : ∀ M' : bc_M, LK M0 M' (ma_out it (fun t => rf fr nd t nd.toNat 0) sz n t p dk) → MS M' (ma_out it (fun t => rf fr nd t nd.toNat 0) sz n t p dk) fr pop bnd nd ni sg ln → post (.inr none) M'), bc_W G RX9 cX9_assign 7 none 2 0 0 5 [some (vR G 33 0), some (vR G 46 0), some (vI kk), some (vI p), some (vI t), y5, y6] [] Mc post := by
  intro n
  induction n with
  | zero =>
    intro t p dk Mc y5 y6 h1 h2 h3 hsum hK hms k
    have hni := hms.1.2.1
    have hnd := hms.1.1
    refine wp_iload eX9_assign_5 rfl ?_
    refine wp_iload_n eX9_assign_7 rfl ?_
    refine wp_icmp_ge eX9_assign_8 (fun c8 => ?_) (fun c8 => ?_)
    · refine wp_return eX9_assign_62 ?_
      exact k Mc hK hms
    · omega
  | succ n ih =>
    intro t p dk Mc y5 y6 h1 h2 h3 hsum hK hms k
    have hni := hms.1.2.1
    have hnd := hms.1.1
    refine wp_iload eX9_assign_5 rfl ?_
    refine wp_iload_n eX9_assign_7 rfl ?_
    refine wp_icmp_ge eX9_assign_8 (fun c8 => ?_) (fun c8 => ?_)
    · omega
    · refine wp_aload_n eX9_assign_11 rfl ?_
      refine wp_iload eX9_assign_12 rfl ?_
      refine c_X9_315 eX9_assign_14 (ct_rankedDisk hms (by omega) ?_)
      have hrd : 0 ≤ rf fr nd t nd.toNat 0 ∧ rf fr nd t nd.toNat 0 < nd := by
        have hrk := rk_RK (v := fr) (N := nd) (r := fun _ => 0) (by omega)
        rw [rf_rk hrk (by omega)]
        exact hrk.1 t (by omega) (by omega)
      have hszt := hsz t (by omega) (by omega)
      refine ist_5 eX9_assign_17 ?_
      refine wp_iconst eX9_assign_19 ?_
      refine ist_6 eX9_assign_20 ?_
      have hst : sp_from sz (n + 1) t = sz t + sp_from sz n (t + 1) := rfl
      rw [hst] at hsum
      have hnn := sp_from_nn (sz := sz) (kk := kk) (fun q a b => (hsz q a b).1) n (t + 1) (by omega) (by omega)
      refine lp_asg46i hkk eit hit esz hsz (t := t) (by omega) hrd (sz t).toNat p 0 dk Mc (by omega) (by omega) (by omega) hK hms (fun M1 hK1 hm1 => ?_)
      refine inc_4 eX9_assign_56 ?_
      refine wp_goto eX9_assign_59 ?_
      rw [show p + ((sz t).toNat : Int) = p + sz t by omega]
      exact ih (t + 1) (p + sz t) _ M1 _ _ (by omega) (by omega) (by omega) (by omega) hK1 hm1 k
theorem ct_asg46 {G : bc_G} {M : bc_M} {post : bc_R → bc_M → Prop} {fr pop bnd : Int → Int} {nd ni sg ln kk : Int} {it sz : Int → Int} (hkk : 1 ≤ kk ∧ kk ≤ nd) (eit : M 45 0 = it) (hit : ∀ p, 0 ≤ p → p < ni → 0 ≤ it p ∧ it p < ni) (esz : M 46 0 = sz) (hsz : ∀ t, 0 ≤ t → t < kk → 0 ≤ sz t ∧ sz t ≤ 16) {dk : Int → Int} (hs : MS M dk fr pop bnd nd ni sg ln) (hsum : sp_from sz kk.toNat 0 ≤ ni) (k : ∀ M' : bc_M, LK M M' (ma_out it (fun t => rf fr nd t nd.toNat 0) sz kk.toNat 0 0 dk) → MS M' (ma_out it (fun t => rf fr nd t nd.toNat 0) sz kk.toNat 0 0 dk) fr pop bnd nd ni sg ln → post (.inr none) M') : bc_Call G yX9_assign cX9_assign 7 none 2 0 [vR G 33 0, vR G 46 0, vI kk] M post := by
  refine bc_enter (L := [some (vR G 33 0), some (vR G 46 0), some (vI kk), none, none, none, none]) (by decide) rfl rfl ?_
  refine wp_iconst eX9_assign_0 ?_
  refine ist_3 eX9_assign_1 ?_
  refine wp_iconst eX9_assign_2 ?_
  refine ist_4 eX9_assign_3 ?_
  exact lp_asg46 hkk eit hit esz hsz kk.toNat 0 0 dk M none none (by omega) (by omega) (by omega) (by omega) (LK.rf hs.2.2.1) hs k
theorem lp_asg47i {G : bc_G} {post : bc_R → bc_M → Prop} {fr pop bnd : Int → Int} {nd ni sg ln kk : Int} {it sz : Int → Int} {M0 : bc_M} (hkk : 1 ≤ kk ∧ kk ≤ nd) (eit : M0 45 0 = it) (hit : ∀ p, 0 ≤ p → p < ni → 0 ≤ it p ∧ it p < ni) (esz : M0 47 0 = sz) (hsz : ∀ t, 0 ≤ t → t < kk → 0 ≤ sz t ∧ sz t ≤ 16) {t d : Int} (ht : 0 ≤ t ∧ t < kk) (hd : 0 ≤ d ∧ d < nd) : ∀ (n : Nat) (p x : Int) (dk : Int → Int) (Mc : bc_M) (h1 : x + n = sz t) (h2 : 0 ≤ x) (h3 : 0 ≤ p ∧ p + n ≤ ni) (hK : LK M0 Mc dk) (hms : MS Mc dk fr pop bnd nd ni sg ln) (k : ∀ M' : bc_M, LK M0 M' (ma_in it d n p dk) → MS M' (ma_in it d n p dk) fr pop bnd nd ni sg ln → bc_W G RX9 cX9_assign 7 none 2 0 0 56 [some (vR G 33 0), some (vR G 47 0), some (vI kk), some (vI (p + n)), some (vI t), some (vI d), some (vI (sz t))] [] M' post), bc_W G RX9 cX9_assign 7 none 2 0 0 22 [some (vR G 33 0), some (vR G 47 0), some (vI kk), some (vI p), some (vI t), some (vI d), some (vI x)] [] Mc post := by
  intro n
  induction n with
  | zero =>
    intro p x dk Mc h1 h2 h3 hK hms k
    have hszt := hsz t ht.1 ht.2
    have hni := hms.1.2.1
    have hnd := hms.1.1
    refine wp_iload eX9_assign_22 rfl ?_
    refine wp_aload_n eX9_assign_24 rfl ?_
    refine wp_iload eX9_assign_25 rfl ?_
    refine al_47 eX9_assign_27 ?_
    rw [hK.1 47 0 (by omega), esz]
    refine wp_icmp_ge eX9_assign_28 (fun c28 => ?_) (fun c28 => ?_)
    · have hx : x = sz t := by omega
      subst hx
      have e0 : p + ((0 : Nat) : Int) = p := by omega
      have k9 := k Mc hK hms
      rw [e0] at k9
      exact k9
    · omega
  | succ n ih =>
    intro p x dk Mc h1 h2 h3 hK hms k
    have hszt := hsz t ht.1 ht.2
    have hni := hms.1.2.1
    have hnd := hms.1.1
    refine wp_iload eX9_assign_22 rfl ?_
    refine wp_aload_n eX9_assign_24 rfl ?_
    refine wp_iload eX9_assign_25 rfl ?_
    refine al_47 eX9_assign_27 ?_
    rw [hK.1 47 0 (by omega), esz]
    refine wp_icmp_ge eX9_assign_28 (fun c28 => ?_) (fun c28 => ?_)
    · omega
    · refine wp_aload_n eX9_assign_31 rfl ?_
      refine gf_X9_7 eX9_assign_32 ?_
      refine wp_bipush eX9_assign_35 ?_
      refine wp_aload_n eX9_assign_37 rfl ?_
      refine gf_X9_47 eX9_assign_38 ?_
      refine wp_iload_n eX9_assign_41 rfl ?_
      refine al_45 eX9_assign_42 ?_
      rw [hK.1 45 0 (by omega), eit]
      have hip := hit p (by omega) (by omega)
      refine wp_iadd eX9_assign_43 ?_
      refine wp_iload eX9_assign_44 rfl ?_
      refine as_34 eX9_assign_46 ?_
      refine inc_3 eX9_assign_47 ?_
      refine inc_6 eX9_assign_50 ?_
      refine wp_goto eX9_assign_53 ?_
      refine ih (p + 1) (x + 1) _ _ (by omega) (by omega) (by omega) (hK.up (by omega)) (hms.up16 (by omega) hd) (fun M' a b => ?_)
      have k9 := k M' a b
      rw [show p + ((n + 1 : Nat) : Int) = p + 1 + n by omega] at k9
      exact k9
theorem lp_asg47 {G : bc_G} {post : bc_R → bc_M → Prop} {fr pop bnd : Int → Int} {nd ni sg ln kk : Int} {it sz : Int → Int} {M0 : bc_M} (hkk : 1 ≤ kk ∧ kk ≤ nd) (eit : M0 45 0 = it) (hit : ∀ p, 0 ≤ p → p < ni → 0 ≤ it p ∧ it p < ni) (esz : M0 47 0 = sz) (hsz : ∀ t, 0 ≤ t → t < kk → 0 ≤ sz t ∧ sz t ≤ 16) : ∀ (n : Nat) (t p : Int) (dk : Int → Int) (Mc : bc_M) (y5 y6 : Option Value) (h1 : t + n = kk) (h2 : 0 ≤ t) (h3 : 0 ≤ p) (hsum : p + sp_from sz n t ≤ ni) (hK : LK M0 Mc dk) (hms : MS Mc dk fr pop bnd nd ni sg ln) (k : ∀ M' : bc_M, LK M0 M' (ma_out it (fun t => rf fr nd t nd.toNat 0) sz n t p dk) → MS M' (ma_out it (fun t => rf fr nd t nd.toNat 0) sz n t p dk) fr pop bnd nd ni sg ln → post (.inr none) M'), bc_W G RX9 cX9_assign 7 none 2 0 0 5 [some (vR G 33 0), some (vR G 47 0), some (vI kk), some (vI p), some (vI t), y5, y6] [] Mc post := by
  intro n
  induction n with
  | zero =>
    intro t p dk Mc y5 y6 h1 h2 h3 hsum hK hms k
    have hni := hms.1.2.1
    have hnd := hms.1.1
    refine wp_iload eX9_assign_5 rfl ?_
    refine wp_iload_n eX9_assign_7 rfl ?_
    refine wp_icmp_ge eX9_assign_8 (fun c8 => ?_) (fun c8 => ?_)
    · refine wp_return eX9_assign_62 ?_
      exact k Mc hK hms
    · omega
  | succ n ih =>
    intro t p dk Mc y5 y6 h1 h2 h3 hsum hK hms k
    have hni := hms.1.2.1
    have hnd := hms.1.1
    refine wp_iload eX9_assign_5 rfl ?_
    refine wp_iload_n eX9_assign_7 rfl ?_
    refine wp_icmp_ge eX9_assign_8 (fun c8 => ?_) (fun c8 => ?_)
    · omega
    · refine wp_aload_n eX9_assign_11 rfl ?_
      refine wp_iload eX9_assign_12 rfl ?_
      refine c_X9_315 eX9_assign_14 (ct_rankedDisk hms (by omega) ?_)
      have hrd : 0 ≤ rf fr nd t nd.toNat 0 ∧ rf fr nd t nd.toNat 0 < nd := by
        have hrk := rk_RK (v := fr) (N := nd) (r := fun _ => 0) (by omega)
        rw [rf_rk hrk (by omega)]
        exact hrk.1 t (by omega) (by omega)
      have hszt := hsz t (by omega) (by omega)
      refine ist_5 eX9_assign_17 ?_
      refine wp_iconst eX9_assign_19 ?_
      refine ist_6 eX9_assign_20 ?_
      have hst : sp_from sz (n + 1) t = sz t + sp_from sz n (t + 1) := rfl
      rw [hst] at hsum
      have hnn := sp_from_nn (sz := sz) (kk := kk) (fun q a b => (hsz q a b).1) n (t + 1) (by omega) (by omega)
      refine lp_asg47i hkk eit hit esz hsz (t := t) (by omega) hrd (sz t).toNat p 0 dk Mc (by omega) (by omega) (by omega) hK hms (fun M1 hK1 hm1 => ?_)
      refine inc_4 eX9_assign_56 ?_
      refine wp_goto eX9_assign_59 ?_
      rw [show p + ((sz t).toNat : Int) = p + sz t by omega]
      exact ih (t + 1) (p + sz t) _ M1 _ _ (by omega) (by omega) (by omega) (by omega) hK1 hm1 k
theorem ct_asg47 {G : bc_G} {M : bc_M} {post : bc_R → bc_M → Prop} {fr pop bnd : Int → Int} {nd ni sg ln kk : Int} {it sz : Int → Int} (hkk : 1 ≤ kk ∧ kk ≤ nd) (eit : M 45 0 = it) (hit : ∀ p, 0 ≤ p → p < ni → 0 ≤ it p ∧ it p < ni) (esz : M 47 0 = sz) (hsz : ∀ t, 0 ≤ t → t < kk → 0 ≤ sz t ∧ sz t ≤ 16) {dk : Int → Int} (hs : MS M dk fr pop bnd nd ni sg ln) (hsum : sp_from sz kk.toNat 0 ≤ ni) (k : ∀ M' : bc_M, LK M M' (ma_out it (fun t => rf fr nd t nd.toNat 0) sz kk.toNat 0 0 dk) → MS M' (ma_out it (fun t => rf fr nd t nd.toNat 0) sz kk.toNat 0 0 dk) fr pop bnd nd ni sg ln → post (.inr none) M') : bc_Call G yX9_assign cX9_assign 7 none 2 0 [vR G 33 0, vR G 47 0, vI kk] M post := by
  refine bc_enter (L := [some (vR G 33 0), some (vR G 47 0), some (vI kk), none, none, none, none]) (by decide) rfl rfl ?_
  refine wp_iconst eX9_assign_0 ?_
  refine ist_3 eX9_assign_1 ?_
  refine wp_iconst eX9_assign_2 ?_
  refine ist_4 eX9_assign_3 ?_
  exact lp_asg47 hkk eit hit esz hsz kk.toNat 0 0 dk M none none (by omega) (by omega) (by omega) (by omega) (LK.rf hs.2.2.1) hs k
