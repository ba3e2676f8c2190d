def tmn (p : Int → Int) (x : Int) : Nat → Int → Int → Int
  | 0, _, w => w
  | n + 1, t, w => tmn p x n (t + 1) (if p t = x then w + 1 else w)
def gpn (p : Int → Int) (x len : Int) : Nat → Int → Int → Int
  | 0, _, w => w
  | n + 1, t, w => gpn p x len n (t + 1) (if p t = x then max w (sp_far p x len ((t + 1) % len) + 1) else w)
theorem lp_timesOf {G : bc_G} {M : bc_M} {post : bc_R → bc_M → Prop} {x len : Int} {p : Int → Int} (hlen : 1 ≤ len ∧ len ≤ 400) (hx : -10 ≤ x ∧ x ≤ 100) (e27 : M 33 0 27 = len) (e42 : M 42 0 = p) (hp : ∀ t, 0 ≤ t → t < len → -10 ≤ p t ∧ p t ≤ 100) : ∀ (n : Nat) (t w : Int) (h1 : t + n = len) (h2 : 0 ≤ t) (k : post (.inr (some (vI (tmn p x n t w)))) M), bc_W G RX9 cX9_timesOf 4 (some .int) 1 0 0 4 [some (vR G 33 0), some (vI x), some (vI w), some (vI t)] [] M post := by
  intro n
  induction n with
  | zero =>
    intro t w h1 h2 k
    refine wp_iload_n eX9_timesOf_4 rfl ?_
    refine wp_aload_n eX9_timesOf_5 rfl ?_
    refine gf_X9_231 eX9_timesOf_6 ?_
    rw [e27]
    refine wp_icmp_ge eX9_timesOf_9 (fun c9 => ?_) (fun c9 => ?_)
    · refine wp_iload_n eX9_timesOf_36 rfl ?_
      refine wp_ireturn eX9_timesOf_37 ?_
      exact k
    · omega
  | succ n ih =>
    intro t w h1 h2 k
    refine wp_iload_n eX9_timesOf_4 rfl ?_
    refine wp_aload_n eX9_timesOf_5 rfl ?_
    refine gf_X9_231 eX9_timesOf_6 ?_
    rw [e27]
    refine wp_icmp_ge eX9_timesOf_9 (fun c9 => ?_) (fun c9 => ?_)
    · omega
    · simp only [tmn] at k
      refine wp_iload_n eX9_timesOf_12 rfl ?_
      refine wp_aload_n eX9_timesOf_13 rfl ?_
      refine gf_X9_38 eX9_timesOf_14 ?_
      refine wp_iload_n eX9_timesOf_17 rfl ?_
      refine al_42 eX9_timesOf_18 ?_
      rw [e42]
      have hpr := hp t (by omega) (by omega)
      refine wp_iload_n eX9_timesOf_19 rfl ?_
      refine wp_icmp_ne eX9_timesOf_20 (fun c20 => ?_) (fun c20 => ?_)
      · rw [if_neg c20] at k
        refine wp_iconst eX9_timesOf_27 ?_
        refine wp_iadd eX9_timesOf_28 ?_
        refine ist_2 eX9_timesOf_29 ?_
        refine inc_3 eX9_timesOf_30 ?_
        refine wp_goto eX9_timesOf_33 ?_
        first
        | exact ih (t + 1) _ (by omega) (by omega) k
        | (rw [Int.add_zero]; exact ih (t + 1) _ (by omega) (by omega) k)
      · rw [if_pos (by omega)] at k
        refine wp_iconst eX9_timesOf_23 ?_
        refine wp_goto eX9_timesOf_24 ?_
        refine wp_iadd eX9_timesOf_28 ?_
        refine ist_2 eX9_timesOf_29 ?_
        refine inc_3 eX9_timesOf_30 ?_
        refine wp_goto eX9_timesOf_33 ?_
        first
        | exact ih (t + 1) _ (by omega) (by omega) k
        | (rw [Int.add_zero]; exact ih (t + 1) _ (by omega) (by omega) k)
theorem ct_timesOf {G : bc_G} {M : bc_M} {post : bc_R → bc_M → Prop} {x len : Int} {p : Int → Int} (hlen : 1 ≤ len ∧ len ≤ 400) (hx : -10 ≤ x ∧ x ≤ 100) (e27 : M 33 0 27 = len) (e42 : M 42 0 = p) (hp : ∀ t, 0 ≤ t → t < len → -10 ≤ p t ∧ p t ≤ 100) (k : post (.inr (some (vI (tmn p x len.toNat 0 0)))) M) : bc_Call G yX9_timesOf cX9_timesOf 4 (some .int) 1 0 [vR G 33 0, vI x] M post := by
  refine bc_enter (L := [some (vR G 33 0), some (vI x), none, none]) (by decide) rfl rfl ?_
  refine wp_iconst eX9_timesOf_0 ?_
  refine ist_2 eX9_timesOf_1 ?_
  refine wp_iconst eX9_timesOf_2 ?_
  refine ist_3 eX9_timesOf_3 ?_
  exact lp_timesOf hlen hx e27 e42 hp len.toNat 0 0 (by omega) (by omega) k
theorem lp_gapOf {G : bc_G} {M : bc_M} {post : bc_R → bc_M → Prop} {x len : Int} {p : Int → Int} (hlen : 1 ≤ len ∧ len ≤ 400) (hx : -10 ≤ x ∧ x ≤ 100) (e27 : M 33 0 27 = len) (e42 : M 42 0 = p) (hp : ∀ t, 0 ≤ t → t < len → -10 ≤ p t ∧ p t ≤ 100) (e43 : ∀ t, 0 ≤ t → t < len → M 43 0 t = sp_far p x len t) : ∀ (n : Nat) (t w : Int) (h1 : t + n = len) (h2 : 0 ≤ t) (hw : 0 ≤ w ∧ w ≤ 2000) (k : post (.inr (some (vI (gpn p x len n t w)))) M), bc_W G RX9 cX9_gapOf 4 (some .int) 2 0 0 13 [some (vR G 33 0), some (vI x), some (vI w), some (vI t)] [] M post := by
  intro n
  induction n with
  | zero =>
    intro t w h1 h2 hw k
    refine wp_iload_n eX9_gapOf_13 rfl ?_
    refine wp_aload_n eX9_gapOf_14 rfl ?_
    refine gf_X9_231 eX9_gapOf_15 ?_
    rw [e27]
    refine wp_icmp_ge eX9_gapOf_18 (fun c18 => ?_) (fun c18 => ?_)
    · refine wp_iload_n eX9_gapOf_61 rfl ?_
      refine wp_ireturn eX9_gapOf_62 ?_
      exact k
    · omega
  | succ n ih =>
    intro t w h1 h2 hw k
    refine wp_iload_n eX9_gapOf_13 rfl ?_
    refine wp_aload_n eX9_gapOf_14 rfl ?_
    refine gf_X9_231 eX9_gapOf_15 ?_
    rw [e27]
    refine wp_icmp_ge eX9_gapOf_18 (fun c18 => ?_) (fun c18 => ?_)
    · omega
    · simp only [gpn] at k
      refine wp_aload_n eX9_gapOf_21 rfl ?_
      refine gf_X9_38 eX9_gapOf_22 ?_
      refine wp_iload_n eX9_gapOf_25 rfl ?_
      refine al_42 eX9_gapOf_26 ?_
      rw [e42]
      have hpr := hp t (by omega) (by omega)
      refine wp_iload_n eX9_gapOf_27 rfl ?_
      refine wp_icmp_ne eX9_gapOf_28 (fun c28 => ?_) (fun c28 => ?_)
      · rw [if_neg c28] at k
        refine wp_iload_n eX9_gapOf_53 rfl ?_
        refine ist_2 eX9_gapOf_54 ?_
        refine inc_3 eX9_gapOf_55 ?_
        refine wp_goto eX9_gapOf_58 ?_
        exact ih (t + 1) _ (by omega) (by omega) (by omega) k
      · rw [if_pos (by omega)] at k
        refine wp_iload_n eX9_gapOf_31 rfl ?_
        refine wp_aload_n eX9_gapOf_32 rfl ?_
        refine gf_X9_41 eX9_gapOf_33 ?_
        refine wp_iload_n eX9_gapOf_36 rfl ?_
        refine wp_iconst eX9_gapOf_37 ?_
        refine wp_iadd eX9_gapOf_38 ?_
        refine wp_aload_n eX9_gapOf_39 rfl ?_
        refine gf_X9_231 eX9_gapOf_40 ?_
        rw [e27]
        refine wp_irem eX9_gapOf_43 ?_
        have hm1 := Int.emod_nonneg (t + 1) (show len ≠ 0 by omega)
        have hm2 := Int.emod_lt_of_pos (t + 1) (show 0 < len by omega)
        refine al_43 eX9_gapOf_44 ?_
        rw [e43 _ hm1 hm2]
        have hfr := sp_far_rng (p := p) (x := x) (len := len) (t := (t + 1) % len) (by omega) hm1
        refine wp_iconst eX9_gapOf_45 ?_
        refine wp_iadd eX9_gapOf_46 ?_
        refine c_X9_237 eX9_gapOf_47 (ct_max ?_)
        refine wp_goto eX9_gapOf_50 ?_
        refine ist_2 eX9_gapOf_54 ?_
        refine inc_3 eX9_gapOf_55 ?_
        refine wp_goto eX9_gapOf_58 ?_
        exact ih (t + 1) _ (by omega) (by omega) (by omega) k
theorem ct_gapOf {G : bc_G} {M : bc_M} {post : bc_R → bc_M → Prop} {x len : Int} {p : Int → Int} (hlen : 1 ≤ len ∧ len ≤ 400) (hx : -10 ≤ x ∧ x ≤ 100) (e27 : M 33 0 27 = len) (e42 : M 42 0 = p) (hp : ∀ t, 0 ≤ t → t < len → -10 ≤ p t ∧ p t ≤ 100) (k : ∀ M' : bc_M, Fr (at1 43 0) M M' → post (.inr (some (vI (gpn p x len len.toNat 0 0)))) M') : bc_Call G yX9_gapOf cX9_gapOf 4 (some .int) 2 0 [vR G 33 0, vI x] M post := by
  refine bc_enter (L := [some (vR G 33 0), some (vI x), none, none]) (by decide) rfl rfl ?_
  refine wp_aload_n eX9_gapOf_0 rfl ?_
  refine wp_aload_n eX9_gapOf_1 rfl ?_
  refine gf_X9_41 eX9_gapOf_2 ?_
  refine wp_iload_n eX9_gapOf_5 rfl ?_
  refine c_X9_233 eX9_gapOf_6 (ct_layFar43 hlen hx e27 e42 hp (fun M1 g1 g2 => ?_))
  refine wp_iconst eX9_gapOf_9 ?_
  refine ist_2 eX9_gapOf_10 ?_
  refine wp_iconst eX9_gapOf_11 ?_
  refine ist_3 eX9_gapOf_12 ?_
  exact lp_gapOf hlen hx (by rw [g1 33 0 (by unfold at1; omega)]; exact e27) (by rw [g1 42 0 (by unfold at1; omega)]; exact e42) hp g2 len.toNat 0 0 (by omega) (by omega) (by omega) (k M1 g1)
/-- scanning slots: k times lie before t -/
def bef (f : Int → Int) (N t k : Int) : Prop := (0 ≤ k ∧ k ≤ N) ∧ (∀ q, 0 ≤ q → q < k → f q < t) ∧ ∀ q, k ≤ q → q < N → t ≤ f q
theorem bef_yes {f : Int → Int} {N t k q : Int} (hm : ∀ q q', 0 ≤ q → q < q' → q' < N → f q < f q') (h : bef f N t k) (hq : 0 ≤ q ∧ q < N) (he : t = f q) : q = k ∧ bef f N (t + 1) (k + 1) := by
  obtain ⟨h1, h2, h3⟩ := h
  have hqk : q = k := by
    rcases Int.lt_trichotomy q k with h | h | h
    · have := h2 q hq.1 h; omega
    · exact h
    · have := h3 k (by omega) (by omega)
      have := hm k q (by omega) h hq.2
      omega
  subst hqk
  refine ⟨rfl, by omega, fun r a b => ?_, fun r a b => ?_⟩
  · by_cases hr : r = q
    · subst hr; omega
    · have := h2 r a (by omega); omega
  · have := hm q r hq.1 (by omega) b; omega
theorem bef_no {f : Int → Int} {N t k : Int} (h : bef f N t k) (hn : ¬ ∃ q, 0 ≤ q ∧ q < N ∧ t = f q) : bef f N (t + 1) k := by
  obtain ⟨h1, h2, h3⟩ := h
  refine ⟨h1, fun r a b => by have := h2 r a b; omega, fun r a b => ?_⟩
  have := h3 r a b
  by_cases hr : t = f r
  · exact absurd ⟨r, by omega, b, hr⟩ hn
  · omega
theorem tmn_s {p f : Int → Int} {x N len : Int} (hm : ∀ q q', 0 ≤ q → q < q' → q' < N → f q < f q') (hf : ∀ q, 0 ≤ q → q < N → 0 ≤ f q ∧ f q < len) (hO : ∀ t, 0 ≤ t → t < len → (p t = x ↔ ∃ q, 0 ≤ q ∧ q < N ∧ t = f q)) : ∀ (n : Nat) (t k : Int), 0 ≤ t → t + n = len → bef f N t k → tmn p x n t k = N
  | 0, t, k, h1, h2, h => by
    simp only [tmn]
    obtain ⟨a, b, c⟩ := h
    apply Decidable.byContradiction
    intro hne
    have := c k (by omega) (by omega)
    have := hf k (by omega) (by omega)
    omega
  | n + 1, t, k, h1, h2, h => by
    simp only [tmn]
    by_cases hp : p t = x
    · obtain ⟨q, a, b, c⟩ := (hO t h1 (by omega)).mp hp
      obtain ⟨e, h'⟩ := bef_yes hm h ⟨a, b⟩ c
      rw [if_pos hp]
      exact tmn_s hm hf hO n (t + 1) (k + 1) (by omega) (by omega) h'
    · rw [if_neg hp]
      exact tmn_s hm hf hO n (t + 1) k (by omega) (by omega) (bef_no h (fun q => hp ((hO t h1 (by omega)).mpr q)))
