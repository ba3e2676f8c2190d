theorem MS.it {M : bc_M} {dk fr pop bnd : Int → Int} {nd ni sg ln : Int} (hs : MS M dk fr pop bnd nd ni sg ln) {x : Int} (hx : 0 ≤ x ∧ x < ni) : (0 ≤ M 34 0 (0 + x) ∧ M 34 0 (0 + x) ≤ 99) ∧ (0 ≤ M 34 0 (16 + x) ∧ M 34 0 (16 + x) < 4) ∧ (0 ≤ M 34 0 (48 + M 34 0 (16 + x)) ∧ M 34 0 (48 + M 34 0 (16 + x)) ≤ 6) := by
  obtain ⟨hV, _, hdk, hfr, _, hpb, hrg⟩ := hs
  have h1 := hV.2.1
  have h2 := hV.1
  have h3 := hV.2.2.2.2.2 x hx.1 hx.2
  have h4 := hV.2.2.2.2.1 (dk x) h3.1 h3.2
  rw [(hpb x hx.1 (by omega)).1, hdk x hx.1 (by omega), hfr (dk x) h3.1 (by omega)]
  exact ⟨(hrg x hx.1 hx.2).1, by omega, by omega⟩
theorem lp_chosen {G : bc_G} {M : bc_M} {post : bc_R → bc_M → Prop} {dk fr pop bnd : Int → Int} {nd ni sg ln c : Int} (hs : MS M dk fr pop bnd nd ni sg ln) (hc : 0 ≤ c ∧ c < 4) (hpol : 0 ≤ M 37 0 c ∧ M 37 0 c ≤ 2) (hcl : ∀ f, 0 ≤ f → f < 38 → 0 ≤ mc M c f ∧ mc M c f ≤ 100000000) (hca : mc M c 5 < 65536) : ∀ (n : Nat) (i b : Int) (h1 : i + n = ni) (h2 : 0 ≤ i) (hb9 : -1 ≤ b ∧ b < ni) (k : post (.inr (some (vI (mo_ch M c n i b)))) M), bc_W G RX9 cX9_chosen 4 (some .int) 3 0 0 4 [some (vR G 33 0), some (vI c), some (vI b), some (vI i)] [] M post := by
  intro n
  induction n with
  | zero =>
    intro i b h1 h2 hb9 k
    have hni := hs.1.2.1
    refine wp_iload_n eX9_chosen_4 rfl ?_
    refine wp_aload_n eX9_chosen_5 rfl ?_
    refine gf_X9_79 eX9_chosen_6 ?_
    rw [hs.2.1.2]
    refine wp_icmp_ge eX9_chosen_9 (fun c9 => ?_) (fun c9 => ?_)
    · refine wp_iload_n eX9_chosen_48 rfl ?_
      refine wp_ireturn eX9_chosen_49 ?_
      exact k
    · omega
  | succ n ih =>
    intro i b h1 h2 hb9 k
    have hni := hs.1.2.1
    refine wp_iload_n eX9_chosen_4 rfl ?_
    refine wp_aload_n eX9_chosen_5 rfl ?_
    refine gf_X9_79 eX9_chosen_6 ?_
    rw [hs.2.1.2]
    refine wp_icmp_ge eX9_chosen_9 (fun c9 => ?_) (fun c9 => ?_)
    · omega
    · refine wp_aload_n eX9_chosen_12 rfl ?_
      refine wp_iload_n eX9_chosen_13 rfl ?_
      refine wp_iconst eX9_chosen_14 ?_
      refine c_X9_257 eX9_chosen_15 (ct_ofClient hc (by omega) ?_)
      rw [show M 34 0 (54 + 38 * c + 5) = mc M c 5 from rfl]
      have h5 := hcl 5 (by omega) (by omega)
      refine wp_iload_n eX9_chosen_18 rfl ?_
      refine c_X9_211 eX9_chosen_19 (ct_has ?_)
      refine wp_if_eq eX9_chosen_22 (fun c22 => ?_) (fun c22 => ?_) (by split <;> omega)
      · have hb : ¬ bs (mc M c 5) i = true := by
          intro h
          rw [h] at c22
          exact absurd c22 (by decide)
        have hk9 : mo_ch M c (n + 1) i b = mo_ch M c n (i + 1) b := by
          simp only [mo_ch]
          rw [if_neg (fun q => hb q.1)]
        rw [hk9] at k
        refine inc_3 eX9_chosen_42 ?_
        refine wp_goto eX9_chosen_45 ?_
        exact ih (i + 1) _ (by omega) (by omega) (by omega) k
      · have hb : bs (mc M c 5) i = true := by
          cases h : bs (mc M c 5) i
          · rw [h] at c22; exact absurd rfl c22
          · rfl
        refine wp_iload_n eX9_chosen_25 rfl ?_
        refine wp_iconst eX9_chosen_26 ?_
        refine wp_icmp_eq eX9_chosen_27 (fun c27 => ?_) (fun c27 => ?_)
        · have hk9 : mo_ch M c (n + 1) i b = mo_ch M c n (i + 1) i := by
            simp only [mo_ch]
            rw [if_pos ⟨hb, Or.inl c27⟩]
          rw [hk9] at k
          refine wp_iload_n eX9_chosen_40 rfl ?_
          refine ist_2 eX9_chosen_41 ?_
          refine inc_3 eX9_chosen_42 ?_
          refine wp_goto eX9_chosen_45 ?_
          exact ih (i + 1) _ (by omega) (by omega) (by omega) k
        · refine wp_aload_n eX9_chosen_30 rfl ?_
          refine wp_iload_n eX9_chosen_31 rfl ?_
          refine wp_iload_n eX9_chosen_32 rfl ?_
          refine wp_iload_n eX9_chosen_33 rfl ?_
          refine c_X9_260 eX9_chosen_34 (ct_goesRather hc (by omega) (by omega) hpol hcl (hs.it (x := i) (by omega)).1 (hs.it (x := b) (by omega)).1 (hs.it (x := i) (by omega)).2.1 (hs.it (x := b) (by omega)).2.1 (hs.it (x := i) (by omega)).2.2 (hs.it (x := b) (by omega)).2.2 ?_)
          refine wp_if_eq eX9_chosen_37 (fun c37 => ?_) (fun c37 => ?_) (by split <;> omega)
          · have hl : ¬ mo_less M c i b = true := by
              intro q
              rw [q] at c37
              exact absurd c37 (by decide)
            have hk9 : mo_ch M c (n + 1) i b = mo_ch M c n (i + 1) b := by
              simp only [mo_ch]
              rw [if_neg (fun q => q.2.elim (fun z => c27 z) (fun z => hl z))]
            rw [hk9] at k
            refine inc_3 eX9_chosen_42 ?_
            refine wp_goto eX9_chosen_45 ?_
            exact ih (i + 1) _ (by omega) (by omega) (by omega) k
          · have hl : mo_less M c i b = true := by
              cases hq : mo_less M c i b
              · rw [hq] at c37; exact absurd rfl c37
              · rfl
            have hk9 : mo_ch M c (n + 1) i b = mo_ch M c n (i + 1) i := by
              simp only [mo_ch]
              rw [if_pos ⟨hb, Or.inr hl⟩]
            rw [hk9] at k
            refine wp_iload_n eX9_chosen_40 rfl ?_
            refine ist_2 eX9_chosen_41 ?_
            refine inc_3 eX9_chosen_42 ?_
            refine wp_goto eX9_chosen_45 ?_
            exact ih (i + 1) _ (by omega) (by omega) (by omega) k
theorem ct_chosen {G : bc_G} {M : bc_M} {post : bc_R → bc_M → Prop} {dk fr pop bnd : Int → Int} {nd ni sg ln c : Int} (hs : MS M dk fr pop bnd nd ni sg ln) (hc : 0 ≤ c ∧ c < 4) (hpol : 0 ≤ M 37 0 c ∧ M 37 0 c ≤ 2) (hcl : ∀ f, 0 ≤ f → f < 38 → 0 ≤ mc M c f ∧ mc M c f ≤ 100000000) (hca : mc M c 5 < 65536) (k : post (.inr (some (vI (mo_ch M c ni.toNat 0 (-1))))) M) : bc_Call G yX9_chosen cX9_chosen 4 (some .int) 3 0 [vR G 33 0, vI c] M post := by
  refine bc_enter (L := [some (vR G 33 0), some (vI c), none, none]) (by decide) rfl rfl ?_
  refine wp_iconst eX9_chosen_0 ?_
  refine ist_2 eX9_chosen_1 ?_
  refine wp_iconst eX9_chosen_2 ?_
  refine ist_3 eX9_chosen_3 ?_
  exact lp_chosen hs hc hpol hcl hca ni.toNat 0 (-1) (by have := hs.1.2.1; omega) (by omega) (by have := hs.1.2.1; omega) k
theorem ct_sets {G : bc_G} {M : bc_M} {post : bc_R → bc_M → Prop} {a v : Int} (ha : 0 ≤ M 33 0 2 ∧ M 33 0 2 ≤ 10) (hr : 0 ≤ a ∧ a < 206) (k : post (.inr (some (vI (mrM M 34 0 a)))) (bc_up (mrM M) 34 0 a v)) : bc_Call G yX9_sets cX9_sets 4 (some .int) 2 0 [vR G 33 0, vI a, vI v] M post := by
  refine bc_enter (L := [some (vR G 33 0), some (vI a), some (vI v), none]) (by decide) rfl rfl ?_
  refine wp_aload_n eX9_sets_0 rfl ?_
  refine c_X9_276 eX9_sets_1 (ct_mRemember ha ?_)
  refine wp_aload_n eX9_sets_4 rfl ?_
  refine gf_X9_7 eX9_sets_5 ?_
  refine wp_iload_n eX9_sets_8 rfl ?_
  refine al_34 eX9_sets_9 ?_
  refine ist_3 eX9_sets_10 ?_
  refine wp_aload_n eX9_sets_11 rfl ?_
  refine gf_X9_7 eX9_sets_12 ?_
  refine wp_iload_n eX9_sets_15 rfl ?_
  refine wp_iload_n eX9_sets_16 rfl ?_
  refine as_34 eX9_sets_17 ?_
  refine wp_iload_n eX9_sets_18 rfl ?_
  refine wp_ireturn eX9_sets_19 ?_
  exact k
