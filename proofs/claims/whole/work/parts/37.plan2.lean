def pl (tm : (Int → Int) → Int) (c : Int) : Nat → Int → (Int → Int) → Int → (Int → Int) → Int × (Int → Int)
  | 0, _, _, bt, br => (bt, br)
  | f + 1, n, g, bt, br => if (or_next g c).1 then pl tm c f (n + 1) (or_next g c).2 (if n = 0 ∨ tm g < bt then tm g else bt) (if n = 0 ∨ tm g < bt then g else br) else (if n = 0 ∨ tm g < bt then tm g else bt, if n = 0 ∨ tm g < bt then g else br)
def plP : Nat → Int → Prop := fun k j => ((k = 30 ∨ k = 31 ∨ k = 32) ∧ j = 0) ∨ CLP 49 k j
theorem or_sw_P {P : Int → Prop} {g : Int → Int} {a b c : Int} (ha : 0 ≤ a ∧ a < c) (hb : 0 ≤ b ∧ b < c) (h : ∀ q, 0 ≤ q → q < c → P (g q)) : ∀ q, 0 ≤ q → q < c → P (or_sw g a b q) := by
  intro q h1 h2
  unfold or_sw
  by_cases hq : q = b
  · subst hq; rw [u_at]; exact h _ ha.1 ha.2
  · rw [u_ne hq]
    by_cases hq2 : q = a
    · subst hq2; rw [u_at]; exact h _ hb.1 hb.2
    · rw [u_ne hq2]; exact h q h1 h2
theorem or_rev_P {P : Int → Prop} {c : Int} : ∀ (n : Nat) (lo hi : Int) (g : Int → Int), 0 ≤ lo → hi < c → (∀ q, 0 ≤ q → q < c → P (g q)) → ∀ q, 0 ≤ q → q < c → P (or_rev n lo hi g q)
  | 0, _, _, _, _, _, h => h
  | n + 1, lo, hi, g, h1, h2, h => by
    simp only [or_rev]
    split
    · exact or_rev_P n _ _ _ (by omega) (by omega) (or_sw_P (by omega) (by omega) h)
    · exact h
theorem or_nx_P {P : Int → Prop} {c : Int} {g : Int → Int} (h : ∀ q, 0 ≤ q → q < c → P (g q)) : ∀ (n : Nat) (p : Int), p + 1 = n → p ≤ c - 2 → ∀ q, 0 ≤ q → q < c → P ((or_nx g c n p).2 q)
  | 0, _, _, _ => h
  | n + 1, p, h1, h2 => by
    simp only [or_nx]
    split
    · have hf := or_fit_rng (g := g) (p := p) (c - 2 - p).toNat (c - 1)
      exact or_rev_P 6 _ _ _ (by omega) (by omega) (or_sw_P (by omega) (by omega) h)
    · exact or_nx_P h n (p - 1) (by omega) (by omega)
theorem or_next_P {P : Int → Prop} {c : Int} {g : Int → Int} (hc : 0 ≤ c) (h : ∀ q, 0 ≤ q → q < c → P (g q)) : ∀ q, 0 ≤ q → q < c → P ((or_next g c).2 q) := by
  unfold or_next
  by_cases h1 : 1 ≤ c
  · exact or_nx_P h _ _ (by omega) (by omega)
  · intro q a b; omega
theorem or_first_P {s it : Int} : ∀ (n : Nat) (i c : Int) (g : Int → Int), i + n = it → 0 ≤ i → 0 ≤ c → c ≤ 5 → (∀ q, 0 ≤ q → q < c → 0 ≤ g q ∧ g q < it) → (c ≤ (or_first s n i c g).1 ∧ (or_first s n i c g).1 ≤ 5) ∧ ∀ q, 0 ≤ q → q < (or_first s n i c g).1 → 0 ≤ (or_first s n i c g).2 q ∧ (or_first s n i c g).2 q < it
  | 0, i, c, g, h1, h2, h3, h4, h => ⟨by simp only [or_first]; omega, h⟩
  | n + 1, i, c, g, h1, h2, h3, h4, h => by
    simp only [or_first]
    split
    · split
      · have := or_first_P (s := s) (it := it) n (i + 1) (c + 1) (bc_u g c i) (by omega) (by omega) (by omega) (by omega) (fun q a b => by
          by_cases hq : q = c
          · subst hq; rw [u_at]; omega
          · rw [u_ne hq]; exact h q a (by omega))
        exact ⟨by omega, this.2⟩
      · exact or_first_P n (i + 1) c g (by omega) (by omega) h3 h4 h
    · exact ⟨⟨by simp, h4⟩, h⟩
theorem taM_cong {a b z j : Int} {g : Int → Int} : ∀ (n : Nat) (q : Int) (M' M : bc_M), cliEq M' a M b → sameSP M' M z → cliEq (taM a z j g n q M') a (taM b z j g n q M) b
  | 0, _, _, _, h, _ => h
  | n + 1, q, M', M, h, hs => by
    simp only [taM]
    have h1 := askM_cong (j := j) (i := g q) h hs
    exact taM_cong n (q + 1) _ _ h1.1 (sameSP_tr (sameSP_fr askM_fr) (sameSP_tr hs (sameSP_sy (sameSP_fr askM_fr))))
theorem taM_cn {c z j ni : Int} {g : Int → Int} : ∀ (n : Nat) (q m : Int) (M : bc_M), 0 ≤ q → SM M z → PV M j ni → M 6 z 3 = ni → CN M c m → 0 ≤ m ∧ m + n ≤ 2900 → (∀ x, 0 ≤ x → x < q + n → 0 ≤ g x ∧ g x < ni) → CN (taM c z j g n q M) c (m + n)
  | 0, _, m, M, _, _, _, _, h, _, _ => by simpa [taM] using h
  | n + 1, q, m, M, hq, hs, hp, hni, h, hm, hg => by
    simp only [taM]
    have s1 : sameSP (askM M c z j (g q)) M z := sameSP_fr askM_fr
    have := taM_cn (z := z) (j := j) (ni := ni) (g := g) n (q + 1) (m + 1) (askM M c z j (g q)) (by omega) (SM_same s1 hs) (PV_same s1 hp) (by rw [s1.1 6 (by decide)]; exact hni) (askM_cn hs hp hni h (by omega) (hg q hq (by omega))) (by omega) (fun x a b => hg x a (by omega))
    rw [show m + 1 + (n : Int) = m + ((n + 1 : Nat) : Int) by omega] at this
    exact this
set_option maxHeartbeats 1000000 in
theorem lp_find {G : bc_G} {post : bc_R → bc_M → Prop} {c s z j ni cnt mm : Int} {M0 : bc_M} (hc : 0 ≤ c ∧ c < 49) (hz : 0 ≤ z ∧ z < 13) (hj : 0 ≤ j ∧ j < 2) (hcn : 0 ≤ cnt ∧ cnt ≤ 5) (hs : SM M0 z) (hp : PV M0 j ni) (hni : M0 6 z 3 = ni) (hv : CN M0 c mm) (hm : 0 ≤ mm ∧ mm ≤ 2800) {tm : (Int → Int) → Int} (htm : ∀ g, tm g = taM c z j g cnt.toNat 0 M0 12 c 2) : ∀ (n : Nat) (n0 bt : Int) (br g : Int → Int) (Mc : bc_M) (y : Option Value) (h1 : n0 + n = 120) (h2 : 0 ≤ n0) (h3 : n0 = 0 ∨ (0 ≤ bt ∧ bt ≤ 40000000)) (hF : Fr plP M0 Mc) (e300 : Mc 30 0 0 = bt) (e302 : Mc 30 0 2 = cnt) (e31 : Mc 31 0 = br) (e32 : Mc 32 0 = g) (hg : ∀ q, 0 ≤ q → q < cnt → 0 ≤ g q ∧ g q < ni) (k : ∀ M' : bc_M, Fr plP M0 M' → M' 30 0 0 = (pl tm cnt n n0 g bt br).1 → M' 31 0 = (pl tm cnt n n0 g bt br).2 → M' 30 0 2 = cnt → post (.inr none) M'), bc_W G RX3 cX3_find 8 none 8 0 0 15 [some (vR G 30 0), some (vR G 12 c), some (vI s), some (vR G 6 z), some (vR G 17 j), some (vI 1), some (vI n0), y] [] Mc post := by
  intro n
  induction n with
  | zero =>
    intro n0 bt br g Mc y h1 h2 h3 hF e300 e302 e31 e32 hg k
    have hni16 := hs.1.2.1
    have hcl : ∀ k9, (k9 = 12 ∨ k9 = 13 ∨ k9 = 14) → Mc k9 c = M0 k9 c := fun k9 h9 => hF k9 c (by unfold plP CLP; omega)
    have eC : cliEq Mc c M0 c := ⟨hcl 13 (by decide), hcl 14 (by decide), fun f _ _ => by rw [hcl 12 (by decide)]⟩
    have sA : sameSP Mc M0 z := ⟨fun k9 h9 => hF k9 z (by unfold plP CLP; omega), fun k9 q9 h9 => hF k9 q9 (by unfold plP CLP; omega)⟩
    refine wp_iload eX3_find_15 rfl ?_
    refine wp_bipush eX3_find_17 ?_
    refine wp_icmp_ge eX3_find_19 (fun c19 => ?_) (fun c19 => ?_)
    · refine wp_return eX3_find_83 ?_
      simp only [pl] at k
      exact k _ hF e300 e31 e302
    · omega
  | succ n ih =>
    intro n0 bt br g Mc y h1 h2 h3 hF e300 e302 e31 e32 hg k
    have hni16 := hs.1.2.1
    have hcl : ∀ k9, (k9 = 12 ∨ k9 = 13 ∨ k9 = 14) → Mc k9 c = M0 k9 c := fun k9 h9 => hF k9 c (by unfold plP CLP; omega)
    have eC : cliEq Mc c M0 c := ⟨hcl 13 (by decide), hcl 14 (by decide), fun f _ _ => by rw [hcl 12 (by decide)]⟩
    have sA : sameSP Mc M0 z := ⟨fun k9 h9 => hF k9 z (by unfold plP CLP; omega), fun k9 q9 h9 => hF k9 q9 (by unfold plP CLP; omega)⟩
    refine wp_iload eX3_find_15 rfl ?_
    refine wp_bipush eX3_find_17 ?_
    refine wp_icmp_ge eX3_find_19 (fun c19 => ?_) (fun c19 => ?_)
    · omega
    · refine wp_iload eX3_find_22 rfl ?_
      refine wp_if_eq eX3_find_24 (fun c24 => ?_) (fun c24 => ?_)
      · exact absurd c24 (by decide)
      · refine wp_aload_n eX3_find_27 rfl ?_
        refine wp_aload_n eX3_find_28 rfl ?_
        refine wp_aload_n eX3_find_29 rfl ?_
        refine wp_aload eX3_find_30 rfl ?_
        refine c_X3_41 eX3_find_32 (ct_timeAfter (m := mm) hc hz hj hcn hg (SM_same sA hs) (PV_same sA hp) (by rw [sA.1 6 (by decide)]; exact hni) e302 e32 (CN_cong eC hv) (by omega) (fun M1 hF1 => ?_))
        have etm : taM c z j g cnt.toNat 0 Mc 12 c 2 = tm g := by rw [htm]; exact (taM_cong _ _ _ _ eC sA).2.2 2 (by decide) (by decide)
        rw [etm]
        have bt9 : 0 ≤ tm g ∧ tm g ≤ 40000000 := by
          have := (taM_cn (c := c) (z := z) (j := j) (ni := ni) (g := g) cnt.toNat 0 mm M0 (by omega) hs hp hni hv (by omega) (fun x a b => hg x a (by omega))).2.2.1
          rw [htm]
          omega
        have hF2 : Fr plP M0 M1 := Fr.tr hF (hF1.mono (fun k9 j9 h9 => Or.inr h9))
        have f30 : M1 30 0 = Mc 30 0 := hF1 30 0 (by unfold CLP; omega)
        have f31 : M1 31 0 = Mc 31 0 := hF1 31 0 (by unfold CLP; omega)
        have f32 : M1 32 0 = Mc 32 0 := hF1 32 0 (by unfold CLP; omega)
        clear hF hF1 eC sA etm
        refine ist_7 eX3_find_35 ?_
        refine wp_iload eX3_find_37 rfl ?_
        refine wp_if_eq eX3_find_39 (fun c39 => ?_) (fun c39 => ?_)
        · have hyes : n0 = 0 ∨ tm g < bt := by omega
          refine wp_aload_n eX3_find_51 rfl ?_
          refine wp_iload eX3_find_52 rfl ?_
          refine pf_X3_9 eX3_find_54 ?_
          refine wp_aload_n eX3_find_57 rfl ?_
          refine gf_X3_22 eX3_find_58 ?_
          refine wp_iconst eX3_find_61 ?_
          refine wp_aload_n eX3_find_62 rfl ?_
          refine gf_X3_15 eX3_find_63 ?_
          refine wp_iconst eX3_find_66 ?_
          refine wp_iconst eX3_find_67 ?_
          refine cp_X3_45_32_31 eX3_find_68 ?_
          rw [show bc_up M1 30 0 0 (tm g) 32 0 = g by rw [up_kne (by decide), f32]; exact e32]
          refine wp_aload_n eX3_find_71 rfl ?_
          refine c_X3_51 eX3_find_72 (ct_nextOrder (c := cnt) (g := g) hcn (by rw [row_kne (by decide), up_v, if_neg (by decide), f30]; exact e302) (by rw [row_kne (by decide), up_kne (by decide), f32]; exact e32) (fun q a b => by have := hg q a b; omega) ?_)
          have g1 : (if n0 = 0 ∨ tm g < bt then tm g else bt) = tm g := if_pos (by omega)
          have g2 : (if n0 = 0 ∨ tm g < bt then g else br) = g := if_pos (by omega)
          simp only [pl, g1, g2] at k
          refine ist_5 eX3_find_75 ?_
          refine inc_6 eX3_find_77 ?_
          refine wp_goto eX3_find_80 ?_
          have q0 : (bc_row (bc_row (bc_up M1 30 0 0 (tm g)) 31 0 g) 32 0 (or_next g cnt).2) 30 0 0 = tm g := by rw [row_kne (by decide), row_kne (by decide), up_v, if_pos rfl]
          have q2 : (bc_row (bc_row (bc_up M1 30 0 0 (tm g)) 31 0 g) 32 0 (or_next g cnt).2) 30 0 2 = cnt := by rw [row_kne (by decide), row_kne (by decide), up_v, if_neg (by decide), f30]; exact e302
          have q31 : (bc_row (bc_row (bc_up M1 30 0 0 (tm g)) 31 0 g) 32 0 (or_next g cnt).2) 31 0 = g := by rw [row_kne (by decide), row_at]
          have q32 : (bc_row (bc_row (bc_up M1 30 0 0 (tm g)) 31 0 g) 32 0 (or_next g cnt).2) 32 0 = (or_next g cnt).2 := row_at
          have qF : Fr plP M0 (bc_row (bc_row (bc_up M1 30 0 0 (tm g)) 31 0 g) 32 0 (or_next g cnt).2) := Fr.tr (Fr.tr (Fr.tr hF2 (Fr.up (Or.inl ⟨Or.inl rfl, rfl⟩))) (row_fr.mono (fun k9 j9 h9 => Or.inl ⟨Or.inr (Or.inl h9.1), h9.2⟩))) (row_fr.mono (fun k9 j9 h9 => Or.inl ⟨Or.inr (Or.inr h9.1), h9.2⟩))
          generalize (bc_row (bc_row (bc_up M1 30 0 0 (tm g)) 31 0 g) 32 0 (or_next g cnt).2) = M2 at q0 q2 q31 q32 qF ⊢
          have hgn := or_next_P (P := fun x => 0 ≤ x ∧ x < ni) hcn.1 hg
          cases hmo : (or_next g cnt).1
          · rw [hmo] at k
            simp only [Bool.false_eq_true, if_false] at k
            rw [show (if false = true then (1 : Int) else 0) = 0 from rfl]
            refine wp_iload eX3_find_15 rfl ?_
            refine wp_bipush eX3_find_17 ?_
            refine wp_icmp_ge eX3_find_19 (fun c19 => ?_) (fun c19 => ?_)
            · refine wp_return eX3_find_83 ?_
              exact k _ qF q0 q31 q2
            · refine wp_iload eX3_find_22 rfl ?_
              refine wp_if_eq eX3_find_24 (fun c24 => ?_) (fun c24 => ?_)
              · refine wp_return eX3_find_83 ?_
                exact k _ qF q0 q31 q2
              · exact absurd rfl c24
          · rw [hmo] at k
            simp only [if_true] at k
            rw [show (if true = true then (1 : Int) else 0) = 1 from rfl]
            exact ih (n0 + 1) (tm g) g _ M2 _ (by omega) (by omega) (by omega) qF q0 q2 q31 q32 hgn k
        · refine wp_iload eX3_find_42 rfl ?_
          refine wp_aload_n eX3_find_44 rfl ?_
          refine gf_X3_9 eX3_find_45 ?_
          rw [f30, e300]
          refine wp_icmp_ge eX3_find_48 (fun c48 => ?_) (fun c48 => ?_)
          · have hno : ¬ (n0 = 0 ∨ tm g < bt) := by omega
            refine wp_aload_n eX3_find_71 rfl ?_
            refine c_X3_51 eX3_find_72 (ct_nextOrder (c := cnt) (g := g) hcn (by rw [f30]; exact e302) (by rw [f32]; exact e32) (fun q a b => by have := hg q a b; omega) ?_)
            have g1 : (if n0 = 0 ∨ tm g < bt then tm g else bt) = bt := if_neg (by omega)
            have g2 : (if n0 = 0 ∨ tm g < bt then g else br) = br := if_neg (by omega)
            simp only [pl, g1, g2] at k
            refine ist_5 eX3_find_75 ?_
            refine inc_6 eX3_find_77 ?_
            refine wp_goto eX3_find_80 ?_
            have q0 : (bc_row M1 32 0 (or_next g cnt).2) 30 0 0 = bt := by rw [row_kne (by decide), f30]; exact e300
            have q2 : (bc_row M1 32 0 (or_next g cnt).2) 30 0 2 = cnt := by rw [row_kne (by decide), f30]; exact e302
            have q31 : (bc_row M1 32 0 (or_next g cnt).2) 31 0 = br := by rw [row_kne (by decide), f31]; exact e31
            have q32 : (bc_row M1 32 0 (or_next g cnt).2) 32 0 = (or_next g cnt).2 := row_at
            have qF : Fr plP M0 (bc_row M1 32 0 (or_next g cnt).2) := Fr.tr hF2 (row_fr.mono (fun k9 j9 h9 => Or.inl ⟨Or.inr (Or.inr h9.1), h9.2⟩))
            generalize (bc_row M1 32 0 (or_next g cnt).2) = M2 at q0 q2 q31 q32 qF ⊢
            have hgn := or_next_P (P := fun x => 0 ≤ x ∧ x < ni) hcn.1 hg
            cases hmo : (or_next g cnt).1
            · rw [hmo] at k
              simp only [Bool.false_eq_true, if_false] at k
              rw [show (if false = true then (1 : Int) else 0) = 0 from rfl]
              refine wp_iload eX3_find_15 rfl ?_
              refine wp_bipush eX3_find_17 ?_
              refine wp_icmp_ge eX3_find_19 (fun c19 => ?_) (fun c19 => ?_)
              · refine wp_return eX3_find_83 ?_
                exact k _ qF q0 q31 q2
              · refine wp_iload eX3_find_22 rfl ?_
                refine wp_if_eq eX3_find_24 (fun c24 => ?_) (fun c24 => ?_)
                · refine wp_return eX3_find_83 ?_
                  exact k _ qF q0 q31 q2
                · exact absurd rfl c24
            · rw [hmo] at k
              simp only [if_true] at k
              rw [show (if true = true then (1 : Int) else 0) = 1 from rfl]
              exact ih (n0 + 1) bt br _ M2 _ (by omega) (by omega) (by omega) qF q0 q2 q31 q32 hgn k
          · have hyes : n0 = 0 ∨ tm g < bt := by omega
            refine wp_aload_n eX3_find_51 rfl ?_
            refine wp_iload eX3_find_52 rfl ?_
            refine pf_X3_9 eX3_find_54 ?_
            refine wp_aload_n eX3_find_57 rfl ?_
            refine gf_X3_22 eX3_find_58 ?_
            refine wp_iconst eX3_find_61 ?_
            refine wp_aload_n eX3_find_62 rfl ?_
            refine gf_X3_15 eX3_find_63 ?_
            refine wp_iconst eX3_find_66 ?_
            refine wp_iconst eX3_find_67 ?_
            refine cp_X3_45_32_31 eX3_find_68 ?_
            rw [show bc_up M1 30 0 0 (tm g) 32 0 = g by rw [up_kne (by decide), f32]; exact e32]
            refine wp_aload_n eX3_find_71 rfl ?_
            refine c_X3_51 eX3_find_72 (ct_nextOrder (c := cnt) (g := g) hcn (by rw [row_kne (by decide), up_v, if_neg (by decide), f30]; exact e302) (by rw [row_kne (by decide), up_kne (by decide), f32]; exact e32) (fun q a b => by have := hg q a b; omega) ?_)
            have g1 : (if n0 = 0 ∨ tm g < bt then tm g else bt) = tm g := if_pos (by omega)
            have g2 : (if n0 = 0 ∨ tm g < bt then g else br) = g := if_pos (by omega)
            simp only [pl, g1, g2] at k
            refine ist_5 eX3_find_75 ?_
            refine inc_6 eX3_find_77 ?_
            refine wp_goto eX3_find_80 ?_
            have q0 : (bc_row (bc_row (bc_up M1 30 0 0 (tm g)) 31 0 g) 32 0 (or_next g cnt).2) 30 0 0 = tm g := by rw [row_kne (by decide), row_kne (by decide), up_v, if_pos rfl]
            have q2 : (bc_row (bc_row (bc_up M1 30 0 0 (tm g)) 31 0 g) 32 0 (or_next g cnt).2) 30 0 2 = cnt := by rw [row_kne (by decide), row_kne (by decide), up_v, if_neg (by decide), f30]; exact e302
            have q31 : (bc_row (bc_row (bc_up M1 30 0 0 (tm g)) 31 0 g) 32 0 (or_next g cnt).2) 31 0 = g := by rw [row_kne (by decide), row_at]
            have q32 : (bc_row (bc_row (bc_up M1 30 0 0 (tm g)) 31 0 g) 32 0 (or_next g cnt).2) 32 0 = (or_next g cnt).2 := row_at
            have qF : Fr plP M0 (bc_row (bc_row (bc_up M1 30 0 0 (tm g)) 31 0 g) 32 0 (or_next g cnt).2) := Fr.tr (Fr.tr (Fr.tr hF2 (Fr.up (Or.inl ⟨Or.inl rfl, rfl⟩))) (row_fr.mono (fun k9 j9 h9 => Or.inl ⟨Or.inr (Or.inl h9.1), h9.2⟩))) (row_fr.mono (fun k9 j9 h9 => Or.inl ⟨Or.inr (Or.inr h9.1), h9.2⟩))
            generalize (bc_row (bc_row (bc_up M1 30 0 0 (tm g)) 31 0 g) 32 0 (or_next g cnt).2) = M2 at q0 q2 q31 q32 qF ⊢
            have hgn := or_next_P (P := fun x => 0 ≤ x ∧ x < ni) hcn.1 hg
            cases hmo : (or_next g cnt).1
            · rw [hmo] at k
              simp only [Bool.false_eq_true, if_false] at k
              rw [show (if false = true then (1 : Int) else 0) = 0 from rfl]
              refine wp_iload eX3_find_15 rfl ?_
              refine wp_bipush eX3_find_17 ?_
              refine wp_icmp_ge eX3_find_19 (fun c19 => ?_) (fun c19 => ?_)
              · refine wp_return eX3_find_83 ?_
                exact k _ qF q0 q31 q2
              · refine wp_iload eX3_find_22 rfl ?_
                refine wp_if_eq eX3_find_24 (fun c24 => ?_) (fun c24 => ?_)
                · refine wp_return eX3_find_83 ?_
                  exact k _ qF q0 q31 q2
                · exact absurd rfl c24
            · rw [hmo] at k
              simp only [if_true] at k
              rw [show (if true = true then (1 : Int) else 0) = 1 from rfl]
              exact ih (n0 + 1) (tm g) g _ M2 _ (by omega) (by omega) (by omega) qF q0 q2 q31 q32 hgn k
theorem ct_find {G : bc_G} {M : bc_M} {post : bc_R → bc_M → Prop} {c s z j ni mm : Int} (hc : 0 ≤ c ∧ c < 49) (hz : 0 ≤ z ∧ z < 13) (hj : 0 ≤ j ∧ j < 2) (hsr : 0 ≤ s ∧ s < 65536) (hs : SM M z) (hp : PV M j ni) (hni : M 6 z 3 = ni) (hv : CN M c mm) (hm : 0 ≤ mm ∧ mm ≤ 2800) (k : ∀ M' : bc_M, Fr plP M M' → M' 30 0 0 = (pl (fun g => taM c z j g (or_first s ni.toNat 0 0 (M 32 0)).1.toNat 0 M 12 c 2) (or_first s ni.toNat 0 0 (M 32 0)).1 120 0 (or_first s ni.toNat 0 0 (M 32 0)).2 (M 30 0 0) (M 31 0)).1 → M' 31 0 = (pl (fun g => taM c z j g (or_first s ni.toNat 0 0 (M 32 0)).1.toNat 0 M 12 c 2) (or_first s ni.toNat 0 0 (M 32 0)).1 120 0 (or_first s ni.toNat 0 0 (M 32 0)).2 (M 30 0 0) (M 31 0)).2 → M' 30 0 2 = (or_first s ni.toNat 0 0 (M 32 0)).1 → post (.inr none) M') : bc_Call G yX3_find cX3_find 8 none 8 0 [vR G 30 0, vR G 12 c, vI s, vR G 6 z, vR G 17 j] M post := by
  refine bc_enter (L := [some (vR G 30 0), some (vR G 12 c), some (vI s), some (vR G 6 z), some (vR G 17 j), none, none, none]) (by decide) rfl rfl ?_
  refine wp_aload_n eX3_find_0 rfl ?_
  refine wp_iload_n eX3_find_1 rfl ?_
  refine wp_aload_n eX3_find_2 rfl ?_
  refine gf_X3_32 eX3_find_3 ?_
  refine c_X3_37 eX3_find_6 (ct_firstOrder hsr (by have := hs.1.2.1; omega) ?_)
  rw [hni]
  refine wp_iconst eX3_find_9 ?_
  refine ist_5 eX3_find_10 ?_
  refine wp_iconst eX3_find_12 ?_
  refine ist_6 eX3_find_13 ?_
  have hof := or_first_P (s := s) (it := ni) ni.toNat 0 0 (M 32 0) (by have := hs.1.2.1; omega) (by omega) (by omega) (by omega) (fun q a b => by omega)
  have s1 : sameSP (orM M (or_first s ni.toNat 0 0 (M 32 0))) M z := ⟨fun k9 h9 => by unfold orM; rw [row_kne (by omega), up_kne (by omega)], fun k9 q9 h9 => by unfold orM; rw [row_kne (by omega), up_kne (by omega)]⟩
  have hcl : ∀ k9, (k9 = 12 ∨ k9 = 13 ∨ k9 = 14) → orM M (or_first s ni.toNat 0 0 (M 32 0)) k9 c = M k9 c := fun k9 h9 => by unfold orM; rw [row_kne (by omega), up_kne (by omega)]
  refine lp_find (cnt := (or_first s ni.toNat 0 0 (M 32 0)).1) hc hz hj (by omega) hs hp hni hv hm (fun g => rfl) 120 0 (M 30 0 0) (M 31 0) _ _ none (by omega) (by omega) (by omega) ?_ ?_ ?_ ?_ rfl ?_ ?_
  · exact Fr.tr (Fr.up (Or.inl ⟨Or.inl rfl, rfl⟩)) (row_fr.mono (fun k9 j9 h9 => Or.inl ⟨Or.inr (Or.inr h9.1), h9.2⟩))
  · unfold orM; rw [row_kne (by decide), up_v, if_neg (by decide)]
  · unfold orM; rw [row_kne (by decide), up_v, if_pos rfl]
  · unfold orM; rw [row_kne (by decide), up_kne (by decide)]
  · unfold orM; rw [row_at]; exact hof.2
  · unfold orM; rw [row_at]; exact k
