/-- laid anew, the disks changed -/
def LD (M M' : bc_M) (dk : Int → Int) : Prop := Fr (fun k' j' => lyP k' j' ∨ (k' = 34 ∧ j' = 0)) M M' ∧ (∀ f, f ≠ 25 → f ≠ 27 → M' 33 0 f = M 33 0 f) ∧ M' 34 0 = cpF (M 34 0) dk 16 16
theorem LD.rf {M : bc_M} {dk : Int → Int} (e : ∀ i, 0 ≤ i → i < 16 → M 34 0 (16 + i) = dk i) : LD M M dk := by
  refine ⟨Fr.rf, fun _ _ _ => rfl, ?_⟩
  funext q
  unfold cpF
  by_cases h : 16 ≤ q ∧ q < 16 + 16
  · rw [if_pos h, ← e (q - 16) (by omega) (by omega), show 16 + (q - 16) = q by omega]
  · rw [if_neg h]
theorem LD.ly {M M1 M2 : bc_M} {dk : Int → Int} (h : LD M M1 dk) (h2 : LY M1 M2) : LD M M2 dk := ⟨Fr.tr h.1 (h2.1.mono (fun _ _ q => Or.inl q)), fun f a b => (h2.2 f a b).trans (h.2.1 f a b), by rw [h2.1 34 0 (by unfold lyP; omega)]; exact h.2.2⟩
theorem LD.up {M M1 : bc_M} {dk : Int → Int} {i v : Int} (h : LD M M1 dk) (hi : 0 ≤ i ∧ i < 16) : LD M (bc_up M1 34 0 (16 + i) v) (bc_u dk i v) := by
  refine ⟨Fr.tr h.1 (Fr.up (Or.inr ⟨rfl, rfl⟩)), fun f a b => by rw [up_kne (by decide)]; exact h.2.1 f a b, ?_⟩
  rw [up_at, h.2.2]
  funext q
  by_cases hq : q = 16 + i
  · rw [hq, u_at]
    unfold cpF
    rw [if_pos (by omega), show 16 + i - 16 = i by omega, u_at]
  · rw [u_ne hq]
    unfold cpF
    by_cases h1 : 16 ≤ q ∧ q < 16 + 16
    · rw [if_pos h1, if_pos h1, u_ne (by omega)]
    · rw [if_neg h1, if_neg h1]
theorem MS.up16 {M : bc_M} {dk fr pop bnd : Int → Int} {nd ni sg ln i v : Int} (hs : MS M dk fr pop bnd nd ni sg ln) (hi : 0 ≤ i ∧ i < ni) (hv : 0 ≤ v ∧ v < nd) : MS (bc_up M 34 0 (16 + i) v) (bc_u dk i v) fr pop bnd nd ni sg ln := by
  obtain ⟨a1, a2, a3, a4, a5, a6, a7⟩ := hs
  have h16 := a1.2.1
  refine ⟨a1.dk hv, by rw [up_kne (by decide)]; exact a2, fun q x y => ?_, fun q x y => ?_, ?_, fun q x y => ?_, a7⟩
  · rw [up_v]
    by_cases hq : q = i
    · subst hq; rw [if_pos rfl, u_at]
    · rw [if_neg (by omega), u_ne hq]; exact a3 q x y
  · rw [up_v, if_neg (by omega)]; exact a4 q x y
  · rw [up_v, if_neg (by omega), up_v, if_neg (by omega)]; exact a5
  · rw [up_v, if_neg (by omega), up_v, if_neg (by omega)]; exact a6 q x y
def nn1 (x : Int) : Int := if x < 0 then -1 else x
def mo_fast (fr : Int → Int) (own : Int) : Nat → Int → Int → Int
  | 0, _, b => b
  | n + 1, d, b => mo_fast fr own n (d + 1) (if own < fr d ∧ (b = -1 ∨ fr d < fr b) then d else b)
theorem mo_fast_s {fr : Int → Int} {own nd : Int} (hf : ∀ d, 0 ≤ d → d < nd → 1 ≤ fr d ∧ fr d ≤ 6) : ∀ (n : Nat) (d b f s : Int), 0 ≤ d → d + n = nd → ((b = -1 ∧ f = -2 ∧ s = 7) ∨ (0 ≤ b ∧ b = f ∧ s = fr b)) → mo_fast fr own n d b = nn1 (sp_fast fr own n d f s)
  | 0, d, b, f, s, _, _, h => by
    show b = nn1 f
    unfold nn1
    by_cases hf0 : f < 0
    · rw [if_pos hf0]; omega
    · rw [if_neg hf0]; omega
  | n + 1, d, b, f, s, h1, h2, h => by
    have hd := hf d h1 (by omega)
    simp only [mo_fast, sp_fast]
    by_cases c : own < fr d ∧ fr d < s
    · rw [if_pos c, if_pos (by
        refine ⟨c.1, ?_⟩
        rcases h with h | h
        · exact Or.inl h.1
        · right; rw [← h.2.2]; exact c.2)]
      exact mo_fast_s hf n (d + 1) d d (fr d) (by omega) (by omega) (Or.inr ⟨h1, rfl, rfl⟩)
    · rw [if_neg c, if_neg (fun q => by
        rcases h with h | h
        · exact c ⟨q.1, by omega⟩
        · rcases q.2 with q2 | q2
          · omega
          · exact c ⟨q.1, by omega⟩)]
      exact mo_fast_s hf n (d + 1) b f s (by omega) (by omega) h
theorem lp_faster {G : bc_G} {M : bc_M} {post : bc_R → bc_M → Prop} {dk fr pop bnd : Int → Int} {nd ni sg ln i : Int} (hs : MS M dk fr pop bnd nd ni sg ln) (hi : 0 ≤ i ∧ i < ni) : ∀ (n : Nat) (d b : Int) (y : Option Value) (h1 : d + n = nd) (h2 : 0 ≤ d) (hb9 : -1 ≤ b ∧ b < nd) (k : post (.inr (some (vI (mo_fast fr (fr (dk i)) n d b)))) M), bc_W G RX9 cX9_faster 5 (some .int) 1 0 0 4 [some (vR G 33 0), some (vI i), some (vI b), some (vI d), y] [] M post := by
  intro n
  induction n with
  | zero =>
    intro d b y h1 h2 hb9 k
    have hV := hs.1
    have hni := hV.2.1
    have hnd := hV.1
    have e16 := hs.2.2.1 i hi.1 (by omega)
    have hdk := hV.2.2.2.2.2 i hi.1 hi.2
    have eow := hs.2.2.2.1 (dk i) hdk.1 (by omega)
    have how := hV.2.2.2.2.1 (dk i) hdk.1 hdk.2
    refine wp_iload_n eX9_faster_4 rfl ?_
    refine wp_aload_n eX9_faster_5 rfl ?_
    refine gf_X9_72 eX9_faster_6 ?_
    rw [hs.2.1.1]
    refine wp_icmp_ge eX9_faster_9 (fun c9 => ?_) (fun c9 => ?_)
    · refine wp_iload_n eX9_faster_72 rfl ?_
      refine wp_ireturn eX9_faster_73 ?_
      exact k
    · omega
  | succ n ih =>
    intro d b y h1 h2 hb9 k
    have hV := hs.1
    have hni := hV.2.1
    have hnd := hV.1
    have e16 := hs.2.2.1 i hi.1 (by omega)
    have hdk := hV.2.2.2.2.2 i hi.1 hi.2
    have eow := hs.2.2.2.1 (dk i) hdk.1 (by omega)
    have how := hV.2.2.2.2.1 (dk i) hdk.1 hdk.2
    refine wp_iload_n eX9_faster_4 rfl ?_
    refine wp_aload_n eX9_faster_5 rfl ?_
    refine gf_X9_72 eX9_faster_6 ?_
    rw [hs.2.1.1]
    refine wp_icmp_ge eX9_faster_9 (fun c9 => ?_) (fun c9 => ?_)
    · omega
    · refine wp_aload_n eX9_faster_12 rfl ?_
      refine gf_X9_7 eX9_faster_13 ?_
      refine wp_bipush eX9_faster_16 ?_
      refine wp_iload_n eX9_faster_18 rfl ?_
      refine wp_iadd eX9_faster_19 ?_
      refine al_34 eX9_faster_20 ?_
      rw [hs.2.2.2.1 d h2 (by omega)]
      have hfd := hV.2.2.2.2.1 d h2 (by omega)
      refine ist_4 eX9_faster_21 ?_
      refine wp_iload eX9_faster_23 rfl ?_
      refine wp_aload_n eX9_faster_25 rfl ?_
      refine gf_X9_7 eX9_faster_26 ?_
      refine wp_bipush eX9_faster_29 ?_
      refine wp_aload_n eX9_faster_31 rfl ?_
      refine gf_X9_7 eX9_faster_32 ?_
      refine wp_bipush eX9_faster_35 ?_
      refine wp_iload_n eX9_faster_37 rfl ?_
      refine wp_iadd eX9_faster_38 ?_
      refine al_34 eX9_faster_39 ?_
      rw [e16]
      refine wp_iadd eX9_faster_40 ?_
      refine al_34 eX9_faster_41 ?_
      rw [eow]
      refine wp_icmp_le eX9_faster_42 (fun c42 => ?_) (fun c42 => ?_)
      · have hk9 : mo_fast fr (fr (dk i)) (n + 1) d b = mo_fast fr (fr (dk i)) n (d + 1) b := by
          simp only [mo_fast]
          rw [if_neg (fun q => by omega)]
        rw [hk9] at k
        refine inc_3 eX9_faster_66 ?_
        refine wp_goto eX9_faster_69 ?_
        exact ih (d + 1) _ _ (by omega) (by omega) (by omega) k
      · refine wp_iload_n eX9_faster_45 rfl ?_
        refine wp_iconst eX9_faster_46 ?_
        refine wp_icmp_eq eX9_faster_47 (fun c47 => ?_) (fun c47 => ?_)
        · have hk9 : mo_fast fr (fr (dk i)) (n + 1) d b = mo_fast fr (fr (dk i)) n (d + 1) d := by
            simp only [mo_fast]
            rw [if_pos ⟨by omega, Or.inl (by omega)⟩]
          rw [hk9] at k
          refine wp_iload_n eX9_faster_64 rfl ?_
          refine ist_2 eX9_faster_65 ?_
          refine inc_3 eX9_faster_66 ?_
          refine wp_goto eX9_faster_69 ?_
          exact ih (d + 1) _ _ (by omega) (by omega) (by omega) k
        · refine wp_iload eX9_faster_50 rfl ?_
          refine wp_aload_n eX9_faster_52 rfl ?_
          refine gf_X9_7 eX9_faster_53 ?_
          refine wp_bipush eX9_faster_56 ?_
          refine wp_iload_n eX9_faster_58 rfl ?_
          refine wp_iadd eX9_faster_59 ?_
          refine al_34 eX9_faster_60 ?_
          rw [hs.2.2.2.1 b (by omega) (by omega)]
          have hfb := hV.2.2.2.2.1 b (by omega) (by omega)
          refine wp_icmp_ge eX9_faster_61 (fun c61 => ?_) (fun c61 => ?_)
          · have hk9 : mo_fast fr (fr (dk i)) (n + 1) d b = mo_fast fr (fr (dk i)) n (d + 1) b := by
              simp only [mo_fast]
              rw [if_neg (fun q => by omega)]
            rw [hk9] at k
            refine inc_3 eX9_faster_66 ?_
            refine wp_goto eX9_faster_69 ?_
            exact ih (d + 1) _ _ (by omega) (by omega) (by omega) k
          · have hk9 : mo_fast fr (fr (dk i)) (n + 1) d b = mo_fast fr (fr (dk i)) n (d + 1) d := by
              simp only [mo_fast]
              rw [if_pos ⟨by omega, Or.inr (by omega)⟩]
            rw [hk9] at k
            refine wp_iload_n eX9_faster_64 rfl ?_
            refine ist_2 eX9_faster_65 ?_
            refine inc_3 eX9_faster_66 ?_
            refine wp_goto eX9_faster_69 ?_
            exact ih (d + 1) _ _ (by omega) (by omega) (by omega) k
theorem ct_faster {G : bc_G} {M : bc_M} {post : bc_R → bc_M → Prop} {dk fr pop bnd : Int → Int} {nd ni sg ln i : Int} (hs : MS M dk fr pop bnd nd ni sg ln) (hi : 0 ≤ i ∧ i < ni) (k : post (.inr (some (vI (nn1 (sp_fd fr nd (dk i)))))) M) : bc_Call G yX9_faster cX9_faster 5 (some .int) 1 0 [vR G 33 0, vI i] M post := by
  have hV := hs.1
  have hni := hV.2.1
  have hnd := hV.1
  have e16 := hs.2.2.1 i hi.1 (by omega)
  have hdk := hV.2.2.2.2.2 i hi.1 hi.2
  have eow := hs.2.2.2.1 (dk i) hdk.1 (by omega)
  have how := hV.2.2.2.2.1 (dk i) hdk.1 hdk.2
  refine bc_enter (L := [some (vR G 33 0), some (vI i), none, none, none]) (by decide) rfl rfl ?_
  refine wp_iconst eX9_faster_0 ?_
  refine ist_2 eX9_faster_1 ?_
  refine wp_iconst eX9_faster_2 ?_
  refine ist_3 eX9_faster_3 ?_
  refine lp_faster hs hi nd.toNat 0 (-1) none (by omega) (by omega) (by omega) ?_
  rw [mo_fast_s (nd := nd) hV.2.2.2.2.1 nd.toNat 0 (-1) (-2) 7 (by omega) (by omega) (Or.inl ⟨rfl, rfl, rfl⟩)]
  exact k
theorem lp_firstM {G : bc_G} {M : bc_M} {post : bc_R → bc_M → Prop} {dk fr pop bnd : Int → Int} {nd ni sg ln s : Int} (hs : MS M dk fr pop bnd nd ni sg ln) (hsr : 0 ≤ s ∧ s < 65536) : ∀ (n : Nat) (i : Int) (h1 : i + n = ni) (h2 : 0 ≤ i) (k : post (.inr (some (vI (nn1 (ftm fr dk nd s n i))))) M), bc_W G RX9 cX9_firstToMove 3 (some .int) 11 0 0 7 [some (vR G 33 0), some (vI s), some (vI i)] [] M post := by
  intro n
  induction n with
  | zero =>
    intro i h1 h2 k
    have hni := hs.1.2.1
    refine wp_iload_n eX9_firstToMove_7 rfl ?_
    refine wp_aload_n eX9_firstToMove_8 rfl ?_
    refine gf_X9_79 eX9_firstToMove_9 ?_
    rw [hs.2.1.2]
    refine wp_icmp_ge eX9_firstToMove_12 (fun c12 => ?_) (fun c12 => ?_)
    · refine wp_iconst eX9_firstToMove_40 ?_
      refine wp_ireturn eX9_firstToMove_41 ?_
      exact k
    · omega
  | succ n ih =>
    intro i h1 h2 k
    have hni := hs.1.2.1
    refine wp_iload_n eX9_firstToMove_7 rfl ?_
    refine wp_aload_n eX9_firstToMove_8 rfl ?_
    refine gf_X9_79 eX9_firstToMove_9 ?_
    rw [hs.2.1.2]
    refine wp_icmp_ge eX9_firstToMove_12 (fun c12 => ?_) (fun c12 => ?_)
    · omega
    · refine wp_iload_n eX9_firstToMove_15 rfl ?_
      refine wp_iload_n eX9_firstToMove_16 rfl ?_
      refine c_X9_211 eX9_firstToMove_17 (ct_has ?_)
      refine wp_if_eq eX9_firstToMove_20 (fun c20 => ?_) (fun c20 => ?_) (by split <;> omega)
      · have hb : ¬ bs s i = true := by
          intro h
          rw [h] at c20
          exact absurd c20 (by decide)
        have hk9 : ftm fr dk nd s (n + 1) i = ftm fr dk nd s n (i + 1) := by
          simp only [ftm]
          rw [if_neg (fun q => hb q.1)]
        rw [hk9] at k
        refine inc_2 eX9_firstToMove_34 ?_
        refine wp_goto eX9_firstToMove_37 ?_
        exact ih (i + 1) (by omega) (by omega) k
      · have hb : bs s i = true := by
          cases h : bs s i
          · rw [h] at c20; exact absurd rfl c20
          · rfl
        refine wp_aload_n eX9_firstToMove_23 rfl ?_
        refine wp_iload_n eX9_firstToMove_24 rfl ?_
        refine c_X9_306 eX9_firstToMove_25 (ct_faster hs (by omega) ?_)
        have hfr := sp_fd_rng (fr := fr) (nd := nd) (d := dk i) hs.1.1.1
        have hnr : -1 ≤ nn1 (sp_fd fr nd (dk i)) ∧ nn1 (sp_fd fr nd (dk i)) < 16 := by unfold nn1; have := hs.1.1; split <;> omega
        refine wp_iconst eX9_firstToMove_28 ?_
        refine wp_icmp_eq eX9_firstToMove_29 (fun c29 => ?_) (fun c29 => ?_)
        · have hlt : sp_fd fr nd (dk i) < 0 := by
            unfold nn1 at c29
            split at c29 <;> omega
          have hk9 : ftm fr dk nd s (n + 1) i = ftm fr dk nd s n (i + 1) := by
            simp only [ftm]
            rw [if_neg (fun q => by omega)]
          rw [hk9] at k
          refine inc_2 eX9_firstToMove_34 ?_
          refine wp_goto eX9_firstToMove_37 ?_
          exact ih (i + 1) (by omega) (by omega) k
        · have hlt : 0 ≤ sp_fd fr nd (dk i) := by
            unfold nn1 at c29
            split at c29 <;> omega
          have hk9 : ftm fr dk nd s (n + 1) i = i := by
            simp only [ftm]
            rw [if_pos ⟨hb, hlt⟩]
          rw [hk9] at k
          rw [show nn1 i = i by unfold nn1; rw [if_neg (by omega)]] at k
          refine wp_iload_n eX9_firstToMove_32 rfl ?_
          refine wp_ireturn eX9_firstToMove_33 ?_
          exact k
theorem ct_mFirstToMove {G : bc_G} {M : bc_M} {post : bc_R → bc_M → Prop} {dk fr pop bnd : Int → Int} {nd ni sg ln : Int} (hs : MS M dk fr pop bnd nd ni sg ln) (k : ∀ M' : bc_M, LY M M' → post (.inr (some (vI (nn1 (ftm fr dk nd (sp_V dk fr bnd nd ni sg ln) ni.toNat 0))))) M') : bc_Call G yX9_firstToMove cX9_firstToMove 3 (some .int) 11 0 [vR G 33 0] M post := by
  refine bc_enter (L := [some (vR G 33 0), none, none]) (by decide) rfl rfl ?_
  refine wp_aload_n eX9_firstToMove_0 rfl ?_
  refine c_X9_303 eX9_firstToMove_1 (ct_violating hs (fun M1 hLY hML => ?_))
  have hvr := sp_V_rng (bnd := bnd) hs.1
  refine ist_1 eX9_firstToMove_4 ?_
  refine wp_iconst eX9_firstToMove_5 ?_
  refine ist_2 eX9_firstToMove_6 ?_
  exact lp_firstM (hLY.ms hs) hvr ni.toNat 0 (by have := hs.1.2.1; omega) (by omega) (k M1 hLY)
set_option maxHeartbeats 1000000 in
theorem lp_repairs {G : bc_G} {post : bc_R → bc_M → Prop} {fr pop bnd : Int → Int} {nd ni sg ln : Int} {M0 : bc_M} : ∀ (n : Nat) (dk : Int → Int) (v : Int) (Mc : bc_M) (y : Option Value) (h1 : v + n = 60) (h2 : 0 ≤ v) (hD : LD M0 Mc dk) (hms : MS Mc dk fr pop bnd nd ni sg ln) (k : ∀ M' : bc_M, LD M0 M' (md fr bnd nd ni sg ln n v dk).2 → MS M' (md fr bnd nd ni sg ln n v dk).2 fr pop bnd nd ni sg ln → post (.inr (some (vI (md fr bnd nd ni sg ln n v dk).1))) M'), bc_W G RX9 cX9_repairs 3 (some .int) 12 0 0 2 [some (vR G 33 0), some (vI v), y] [] Mc post := by
  intro n
  induction n with
  | zero =>
    intro dk v Mc y h1 h2 hD hms k
    have hni := hms.1.2.1
    have hnd := hms.1.1
    refine wp_iload_n eX9_repairs_2 rfl ?_
    refine wp_bipush eX9_repairs_3 ?_
    refine wp_icmp_ge eX9_repairs_5 (fun c5 => ?_) (fun c5 => ?_)
    · simp only [md] at k
      have hv : v = 60 := by omega
      subst hv
      refine wp_bipush eX9_repairs_40 ?_
      refine wp_ireturn eX9_repairs_42 ?_
      first
      | exact k M1 hD1 hm1
      | exact k Mc hD hms
    · omega
  | succ n ih =>
    intro dk v Mc y h1 h2 hD hms k
    have hni := hms.1.2.1
    have hnd := hms.1.1
    refine wp_iload_n eX9_repairs_2 rfl ?_
    refine wp_bipush eX9_repairs_3 ?_
    refine wp_icmp_ge eX9_repairs_5 (fun c5 => ?_) (fun c5 => ?_)
    · omega
    · refine wp_aload_n eX9_repairs_8 rfl ?_
      refine c_X9_309 eX9_repairs_9 (ct_mFirstToMove hms (fun M1 g1 => ?_))
      have hft := ftm_rng (fr := fr) (dk := dk) (nd := nd) (s := sp_V dk fr bnd nd ni sg ln) ni.toNat 0
      have hm1 := g1.ms hms
      have hD1 := hD.ly g1
      have hnr : nn1 (ftm fr dk nd (sp_V dk fr bnd nd ni sg ln) ni.toNat 0) = -1 ∧ ftm fr dk nd (sp_V dk fr bnd nd ni sg ln) ni.toNat 0 < 0 ∨ nn1 (ftm fr dk nd (sp_V dk fr bnd nd ni sg ln) ni.toNat 0) = ftm fr dk nd (sp_V dk fr bnd nd ni sg ln) ni.toNat 0 ∧ 0 ≤ ftm fr dk nd (sp_V dk fr bnd nd ni sg ln) ni.toNat 0 := by
        unfold nn1
        split
        · left; omega
        · right; omega
      refine ist_2 eX9_repairs_12 ?_
      refine wp_iload_n eX9_repairs_13 rfl ?_
      refine wp_iconst eX9_repairs_14 ?_
      refine wp_icmp_ne eX9_repairs_15 (fun c15 => ?_) (fun c15 => ?_)
      · simp only [md] at k
        rw [if_neg (by omega)] at k
        refine wp_aload_n eX9_repairs_20 rfl ?_
        refine gf_X9_7 eX9_repairs_21 ?_
        refine wp_bipush eX9_repairs_24 ?_
        refine wp_iload_n eX9_repairs_26 rfl ?_
        refine wp_iadd eX9_repairs_27 ?_
        refine wp_aload_n eX9_repairs_28 rfl ?_
        refine wp_iload_n eX9_repairs_29 rfl ?_
        refine c_X9_306 eX9_repairs_30 (ct_faster hm1 (i := nn1 (ftm fr dk nd (sp_V dk fr bnd nd ni sg ln) ni.toNat 0)) (by omega) ?_)
        have e0 : nn1 (ftm fr dk nd (sp_V dk fr bnd nd ni sg ln) ni.toNat 0) = ftm fr dk nd (sp_V dk fr bnd nd ni sg ln) ni.toNat 0 := by omega
        rw [e0]
        have hfl : 0 ≤ sp_fd fr nd (dk (ftm fr dk nd (sp_V dk fr bnd nd ni sg ln) ni.toNat 0)) := by omega
        have hfr := sp_fd_rng (fr := fr) (nd := nd) (d := dk (ftm fr dk nd (sp_V dk fr bnd nd ni sg ln) ni.toNat 0)) hm1.1.1.1
        rw [show nn1 (sp_fd fr nd (dk (ftm fr dk nd (sp_V dk fr bnd nd ni sg ln) ni.toNat 0))) = sp_fd fr nd (dk (ftm fr dk nd (sp_V dk fr bnd nd ni sg ln) ni.toNat 0)) by unfold nn1; rw [if_neg (by omega)]]
        refine as_34 eX9_repairs_33 ?_
        refine inc_1 eX9_repairs_34 ?_
        refine wp_goto eX9_repairs_37 ?_
        exact ih _ (v + 1) _ _ (by omega) (by omega) (hD1.up (by omega)) (hm1.up16 (by omega) (by omega)) k
      · simp only [md] at k
        rw [if_pos (by omega)] at k
        refine wp_iload_n eX9_repairs_18 rfl ?_
        refine wp_ireturn eX9_repairs_19 ?_
        first
        | exact k M1 hD1 hm1
        | exact k Mc hD hms
theorem ct_repairs {G : bc_G} {M : bc_M} {post : bc_R → bc_M → Prop} {dk fr pop bnd : Int → Int} {nd ni sg ln : Int} (hs : MS M dk fr pop bnd nd ni sg ln) (k : ∀ M' : bc_M, LD M M' (md fr bnd nd ni sg ln 60 0 dk).2 → MS M' (md fr bnd nd ni sg ln 60 0 dk).2 fr pop bnd nd ni sg ln → post (.inr (some (vI (md fr bnd nd ni sg ln 60 0 dk).1))) M') : bc_Call G yX9_repairs cX9_repairs 3 (some .int) 12 0 [vR G 33 0] M post := by
  refine bc_enter (L := [some (vR G 33 0), none, none]) (by decide) rfl rfl ?_
  refine wp_iconst eX9_repairs_0 ?_
  refine ist_1 eX9_repairs_1 ?_
  exact lp_repairs 60 dk 0 M none (by omega) (by omega) (LD.rf hs.2.2.1) hs k
