theorem bu_same {g : Int → Int} {f : Int} : bc_u g f (g f) = g := by
  funext x
  by_cases h : x = f
  · subst h; rw [u_at]
  · rw [u_ne h]
def as_in (it : Int → Int) (ni d : Int) : Nat → Int → (Int → Int) → Int → Int × (Int → Int) × Int
  | 0, p, dk, mv => (p, dk, mv)
  | n + 1, p, dk, mv => if p < ni then as_in it ni d n (p + 1) (bc_u dk (it p) d) (if dk (it p) = d then mv else mv + 1) else (p, dk, mv)
def as_out (it dd sz : Int → Int) (ni : Int) : Nat → Int → Int → (Int → Int) → Int → (Int → Int) × Int
  | 0, _, _, dk, mv => (dk, mv)
  | n + 1, t, p, dk, mv => as_out it dd sz ni n (t + 1) (as_in it ni (dd t) (sz t).toNat p dk mv).1 (as_in it ni (dd t) (sz t).toNat p dk mv).2.1 (as_in it ni (dd t) (sz t).toNat p dk mv).2.2
theorem as_in_rng {it : Int → Int} {ni d : Int} : ∀ (n : Nat) (p : Int) (dk : Int → Int) (mv : Int), 0 ≤ p → p ≤ ni → p ≤ (as_in it ni d n p dk mv).1 ∧ (as_in it ni d n p dk mv).1 ≤ ni ∧ (0 ≤ mv → 0 ≤ (as_in it ni d n p dk mv).2.2)
  | 0, p, dk, mv, h1, h2 => ⟨by simp [as_in], by simp [as_in, h2], by simp [as_in]⟩
  | n + 1, p, dk, mv, h1, h2 => by
    simp only [as_in]
    split
    · have := as_in_rng (it := it) (ni := ni) (d := d) n (p + 1) (bc_u dk (it p) d) (if dk (it p) = d then mv else mv + 1) (by omega) (by omega)
      refine ⟨by omega, this.2.1, fun h => this.2.2 (by split <;> omega)⟩
    · exact ⟨by simp, h2, fun h => h⟩
theorem as_in_dk {it : Int → Int} {ni d nd : Int} (hd : 0 ≤ d ∧ d < nd) : ∀ (n : Nat) (p : Int) (dk : Int → Int) (mv : Int), (∀ i, 0 ≤ i → i < ni → 0 ≤ dk i ∧ dk i < nd) → ∀ i, 0 ≤ i → i < ni → 0 ≤ (as_in it ni d n p dk mv).2.1 i ∧ (as_in it ni d n p dk mv).2.1 i < nd
  | 0, p, dk, mv, h => h
  | n + 1, p, dk, mv, h => by
    simp only [as_in]
    split
    · refine as_in_dk hd n (p + 1) _ _ (fun i a b => ?_)
      by_cases hi : i = it p
      · subst hi; rw [u_at]; exact hd
      · rw [u_ne hi]; exact h i a b
    · exact h
theorem as_out_dk {it dd sz : Int → Int} {ni nd : Int} : ∀ (n : Nat) (t p : Int) (dk : Int → Int) (mv : Int), (∀ q, t ≤ q → q < t + n → 0 ≤ dd q ∧ dd q < nd) → (∀ i, 0 ≤ i → i < ni → 0 ≤ dk i ∧ dk i < nd) → ∀ i, 0 ≤ i → i < ni → 0 ≤ (as_out it dd sz ni n t p dk mv).1 i ∧ (as_out it dd sz ni n t p dk mv).1 i < nd
  | 0, t, p, dk, mv, _, h => h
  | n + 1, t, p, dk, mv, hd, h => by
    simp only [as_out]
    exact as_out_dk n (t + 1) _ _ _ (fun q a b => hd q (by omega) (by omega)) (as_in_dk (hd t (by omega) (by omega)) _ _ _ _ h)
theorem lp_asIn29 {G : bc_G} {M : bc_M} {post : bc_R → bc_M → Prop} {z kk ni : Int} {it dd sz : Int → Int} (hz : 0 ≤ z ∧ z < 13) (hk : 0 ≤ kk ∧ kk ≤ 4) (hni : 0 ≤ ni ∧ ni ≤ 16) (e6 : M 6 z 3 = ni) (eit : M 26 0 = it) (edd : M 27 0 = dd) (esz : M 29 0 = sz) (hit : ∀ q, 0 ≤ q → q < ni → 0 ≤ it q ∧ it q < 16) (hsz : ∀ q, 0 ≤ q → q < kk → 0 ≤ sz q ∧ sz q ≤ 1000) (hdd : ∀ q, 0 ≤ q → q < kk → 0 ≤ dd q ∧ dd q < 4) {t : Int} (ht : 0 ≤ t ∧ t < kk) : ∀ (n : Nat) (x p mv : Int) (dk : Int → Int) (y : Option Value) (h1 : x + n = sz t) (h2 : 0 ≤ x) (hp : 0 ≤ p ∧ p ≤ ni) (hdk : ∀ q, 0 ≤ q → q < 16 → 0 ≤ dk q ∧ dk q < 10000) (k : ∀ (x9 : Int) (y9 : Option Value), bc_W G RX7 cX7_assign 9 (some .int) 1 0 0 88 [some (vR G 25 0), some (vR G 29 0), some (vI kk), some (vR G 6 z), some (vI (as_in it ni (dd t) n p dk mv).2.2), some (vI (as_in it ni (dd t) n p dk mv).1), some (vI t), some (vI x9), y9] [] (bc_row M 9 z (as_in it ni (dd t) n p dk mv).2.1) post), bc_W G RX7 cX7_assign 9 (some .int) 1 0 0 18 [some (vR G 25 0), some (vR G 29 0), some (vI kk), some (vR G 6 z), some (vI mv), some (vI p), some (vI t), some (vI x), y] [] (bc_row M 9 z dk) post := by
  intro n
  induction n with
  | zero =>
    intro x p mv dk y h1 h2 hp hdk k
    refine wp_iload eX7_assign_18 rfl ?_
    refine wp_aload_n eX7_assign_20 rfl ?_
    refine wp_iload eX7_assign_21 rfl ?_
    refine al_29 eX7_assign_23 ?_
    rw [row_kne (by decide), esz]
    have hs1 := hsz t ht.1 ht.2
    refine wp_icmp_ge eX7_assign_24 (fun c24 => ?_) (fun c24 => ?_)
    · simp only [as_in] at k
      exact k _ _
    · omega
  | succ n ih =>
    intro x p mv dk y h1 h2 hp hdk k
    refine wp_iload eX7_assign_18 rfl ?_
    refine wp_aload_n eX7_assign_20 rfl ?_
    refine wp_iload eX7_assign_21 rfl ?_
    refine al_29 eX7_assign_23 ?_
    rw [row_kne (by decide), esz]
    have hs1 := hsz t ht.1 ht.2
    refine wp_icmp_ge eX7_assign_24 (fun c24 => ?_) (fun c24 => ?_)
    · omega
    · refine wp_iload eX7_assign_27 rfl ?_
      refine wp_aload_n eX7_assign_29 rfl ?_
      refine gf_X7_37 eX7_assign_30 ?_
      rw [row_kne (by decide), e6]
      refine wp_icmp_ge eX7_assign_33 (fun c33 => ?_) (fun c33 => ?_)
      · have hk9 : as_in it ni (dd t) (n + 1) p dk mv = (p, dk, mv) := by
          simp only [as_in]
          rw [if_neg (by omega)]
        rw [hk9] at k
        exact k _ _
      · refine wp_aload_n eX7_assign_36 rfl ?_
        refine gf_X7_9 eX7_assign_37 ?_
        refine wp_iload eX7_assign_40 rfl ?_
        refine al_26 eX7_assign_42 ?_
        rw [row_kne (by decide), eit]
        have hi1 := hit p (by omega) (by omega)
        have hd2 := hdk (it p) hi1.1 hi1.2
        have hd3 := hdd t ht.1 ht.2
        refine ist_8 eX7_assign_43 ?_
        refine wp_aload_n eX7_assign_45 rfl ?_
        refine gf_X7_82 eX7_assign_46 ?_
        refine wp_iload eX7_assign_49 rfl ?_
        refine al_9 eX7_assign_51 ?_
        rw [row_at]
        refine wp_aload_n eX7_assign_52 rfl ?_
        refine gf_X7_15 eX7_assign_53 ?_
        refine wp_iload eX7_assign_56 rfl ?_
        refine al_27 eX7_assign_58 ?_
        rw [row_kne (by decide), edd]
        refine wp_icmp_eq eX7_assign_59 (fun c59 => ?_) (fun c59 => ?_)
        · have hk9 : as_in it ni (dd t) (n + 1) p dk mv = as_in it ni (dd t) n (p + 1) dk mv := by
            simp only [as_in]
            rw [if_pos (by omega), if_pos (by omega), ← c59, bu_same]
          rw [hk9] at k
          refine inc_5 eX7_assign_79 ?_
          refine inc_7 eX7_assign_82 ?_
          refine wp_goto eX7_assign_85 ?_
          exact ih (x + 1) (p + 1) _ _ _ (by omega) (by omega) (by omega) hdk k
        · have hk9 : as_in it ni (dd t) (n + 1) p dk mv = as_in it ni (dd t) n (p + 1) (bc_u dk (it p) (dd t)) (mv + 1) := by
            simp only [as_in]
            rw [if_pos (by omega), if_neg (by omega)]
          rw [hk9] at k
          have hdk : ∀ q, 0 ≤ q → q < 16 → 0 ≤ bc_u dk (it p) (dd t) q ∧ bc_u dk (it p) (dd t) q < 10000 := fun q a b => by
            by_cases hq : q = it p
            · subst hq; rw [u_at]; omega
            · rw [u_ne hq]; exact hdk q a b
          refine wp_aload_n eX7_assign_62 rfl ?_
          refine gf_X7_82 eX7_assign_63 ?_
          refine wp_iload eX7_assign_66 rfl ?_
          refine wp_aload_n eX7_assign_68 rfl ?_
          refine gf_X7_15 eX7_assign_69 ?_
          refine wp_iload eX7_assign_72 rfl ?_
          refine al_27 eX7_assign_74 ?_
          rw [row_kne (by decide), edd]
          refine as_9 eX7_assign_75 ?_
          rw [up_row]
          refine inc_4 eX7_assign_76 ?_
          refine inc_5 eX7_assign_79 ?_
          refine inc_7 eX7_assign_82 ?_
          refine wp_goto eX7_assign_85 ?_
          exact ih (x + 1) (p + 1) _ _ _ (by omega) (by omega) (by omega) hdk k
theorem as_in_dk9 {it : Int → Int} {ni d : Int} (hd : 0 ≤ d ∧ d < 4) : ∀ (n : Nat) (p : Int) (dk : Int → Int) (mv : Int), (∀ i, 0 ≤ i → i < 16 → 0 ≤ dk i ∧ dk i < 10000) → ∀ i, 0 ≤ i → i < 16 → 0 ≤ (as_in it ni d n p dk mv).2.1 i ∧ (as_in it ni d n p dk mv).2.1 i < 10000
  | 0, p, dk, mv, h => h
  | n + 1, p, dk, mv, h => by
    simp only [as_in]
    split
    · refine as_in_dk9 hd n (p + 1) _ _ (fun i a b => ?_)
      by_cases hi : i = it p
      · subst hi; rw [u_at]; omega
      · rw [u_ne hi]; exact h i a b
    · exact h
theorem lp_as29 {G : bc_G} {M : bc_M} {post : bc_R → bc_M → Prop} {z kk ni : Int} {it dd sz : Int → Int} (hz : 0 ≤ z ∧ z < 13) (hk : 0 ≤ kk ∧ kk ≤ 4) (hni : 0 ≤ ni ∧ ni ≤ 16) (e6 : M 6 z 3 = ni) (eit : M 26 0 = it) (edd : M 27 0 = dd) (esz : M 29 0 = sz) (hit : ∀ q, 0 ≤ q → q < ni → 0 ≤ it q ∧ it q < 16) (hsz : ∀ q, 0 ≤ q → q < kk → 0 ≤ sz q ∧ sz q ≤ 1000) (hdd : ∀ q, 0 ≤ q → q < kk → 0 ≤ dd q ∧ dd q < 4) : ∀ (n : Nat) (t p mv : Int) (dk : Int → Int) (y y8 : Option Value) (h1 : t + n = kk) (h2 : 0 ≤ t) (hp : 0 ≤ p ∧ p ≤ ni) (hdk : ∀ q, 0 ≤ q → q < 16 → 0 ≤ dk q ∧ dk q < 10000) (k : post (.inr (some (vI (as_out it dd sz ni n t p dk mv).2))) (bc_row M 9 z (as_out it dd sz ni n t p dk mv).1)), bc_W G RX7 cX7_assign 9 (some .int) 1 0 0 9 [some (vR G 25 0), some (vR G 29 0), some (vI kk), some (vR G 6 z), some (vI mv), some (vI p), some (vI t), y, y8] [] (bc_row M 9 z dk) post := by
  intro n
  induction n with
  | zero =>
    intro t p mv dk y y8 h1 h2 hp hdk k
    refine wp_iload eX7_assign_9 rfl ?_
    refine wp_iload_n eX7_assign_11 rfl ?_
    refine wp_icmp_ge eX7_assign_12 (fun c12 => ?_) (fun c12 => ?_)
    · refine wp_iload eX7_assign_94 rfl ?_
      refine wp_ireturn eX7_assign_96 ?_
      simpa only [as_out] using k
    · omega
  | succ n ih =>
    intro t p mv dk y y8 h1 h2 hp hdk k
    refine wp_iload eX7_assign_9 rfl ?_
    refine wp_iload_n eX7_assign_11 rfl ?_
    refine wp_icmp_ge eX7_assign_12 (fun c12 => ?_) (fun c12 => ?_)
    · omega
    · refine wp_iconst eX7_assign_15 ?_
      refine ist_7 eX7_assign_16 ?_
      have hs1 := hsz t (by omega) (by omega)
      refine lp_asIn29 hz hk hni e6 eit edd esz hit hsz hdd (t := t) (by omega) (sz t).toNat 0 p mv dk y8 (by omega) (by omega) hp hdk (fun x9 y9 => ?_)
      simp only [as_out] at k
      have hr9 := as_in_rng (it := it) (ni := ni) (d := dd t) (sz t).toNat p dk mv hp.1 hp.2
      refine inc_6 eX7_assign_88 ?_
      refine wp_goto eX7_assign_91 ?_
      exact ih (t + 1) _ _ _ _ _ (by omega) (by omega) ⟨by omega, hr9.2.1⟩ (as_in_dk9 (hdd t (by omega) (by omega)) _ _ _ _ hdk) k
theorem ct_assign29 {G : bc_G} {M : bc_M} {post : bc_R → bc_M → Prop} {z kk ni : Int} {it dd sz : Int → Int} (hz : 0 ≤ z ∧ z < 13) (hk : 0 ≤ kk ∧ kk ≤ 4) (hni : 0 ≤ ni ∧ ni ≤ 16) (e6 : M 6 z 3 = ni) (eit : M 26 0 = it) (edd : M 27 0 = dd) (esz : M 29 0 = sz) (hit : ∀ q, 0 ≤ q → q < ni → 0 ≤ it q ∧ it q < 16) (hsz : ∀ q, 0 ≤ q → q < kk → 0 ≤ sz q ∧ sz q ≤ 1000) (hdd : ∀ q, 0 ≤ q → q < kk → 0 ≤ dd q ∧ dd q < 4) (hdk : ∀ q, 0 ≤ q → q < 16 → 0 ≤ M 9 z q ∧ M 9 z q < 10000) (k : post (.inr (some (vI (as_out it dd sz ni kk.toNat 0 0 (M 9 z) 0).2))) (bc_row M 9 z (as_out it dd sz ni kk.toNat 0 0 (M 9 z) 0).1)) : bc_Call G yX7_assign cX7_assign 9 (some .int) 1 0 [vR G 25 0, vR G 29 0, vI kk, vR G 6 z] M post := by
  refine bc_enter (L := [some (vR G 25 0), some (vR G 29 0), some (vI kk), some (vR G 6 z), none, none, none, none, none]) (by decide) rfl rfl ?_
  refine wp_iconst eX7_assign_0 ?_
  refine ist_4 eX7_assign_1 ?_
  refine wp_iconst eX7_assign_3 ?_
  refine ist_5 eX7_assign_4 ?_
  refine wp_iconst eX7_assign_6 ?_
  refine ist_6 eX7_assign_7 ?_
  rw [← row_self (M := M) (k := 9) (j := z)]
  exact lp_as29 hz hk hni e6 eit edd esz hit hsz hdd kk.toNat 0 0 0 (M 9 z) none none (by omega) (by omega) (by omega) hdk k
theorem lp_asIn28 {G : bc_G} {M : bc_M} {post : bc_R → bc_M → Prop} {z kk ni : Int} {it dd sz : Int → Int} (hz : 0 ≤ z ∧ z < 13) (hk : 0 ≤ kk ∧ kk ≤ 4) (hni : 0 ≤ ni ∧ ni ≤ 16) (e6 : M 6 z 3 = ni) (eit : M 26 0 = it) (edd : M 27 0 = dd) (esz : M 28 0 = sz) (hit : ∀ q, 0 ≤ q → q < ni → 0 ≤ it q ∧ it q < 16) (hsz : ∀ q, 0 ≤ q → q < kk → 0 ≤ sz q ∧ sz q ≤ 1000) (hdd : ∀ q, 0 ≤ q → q < kk → 0 ≤ dd q ∧ dd q < 4) {t : Int} (ht : 0 ≤ t ∧ t < kk) : ∀ (n : Nat) (x p mv : Int) (dk : Int → Int) (y : Option Value) (h1 : x + n = sz t) (h2 : 0 ≤ x) (hp : 0 ≤ p ∧ p ≤ ni) (hdk : ∀ q, 0 ≤ q → q < 16 → 0 ≤ dk q ∧ dk q < 10000) (k : ∀ (x9 : Int) (y9 : Option Value), bc_W G RX7 cX7_assign 9 (some .int) 1 0 0 88 [some (vR G 25 0), some (vR G 28 0), some (vI kk), some (vR G 6 z), some (vI (as_in it ni (dd t) n p dk mv).2.2), some (vI (as_in it ni (dd t) n p dk mv).1), some (vI t), some (vI x9), y9] [] (bc_row M 9 z (as_in it ni (dd t) n p dk mv).2.1) post), bc_W G RX7 cX7_assign 9 (some .int) 1 0 0 18 [some (vR G 25 0), some (vR G 28 0), some (vI kk), some (vR G 6 z), some (vI mv), some (vI p), some (vI t), some (vI x), y] [] (bc_row M 9 z dk) post := by
  intro n
  induction n with
  | zero =>
    intro x p mv dk y h1 h2 hp hdk k
    refine wp_iload eX7_assign_18 rfl ?_
    refine wp_aload_n eX7_assign_20 rfl ?_
    refine wp_iload eX7_assign_21 rfl ?_
    refine al_28 eX7_assign_23 ?_
    rw [row_kne (by decide), esz]
    have hs1 := hsz t ht.1 ht.2
    refine wp_icmp_ge eX7_assign_24 (fun c24 => ?_) (fun c24 => ?_)
    · simp only [as_in] at k
      exact k _ _
    · omega
  | succ n ih =>
    intro x p mv dk y h1 h2 hp hdk k
    refine wp_iload eX7_assign_18 rfl ?_
    refine wp_aload_n eX7_assign_20 rfl ?_
    refine wp_iload eX7_assign_21 rfl ?_
    refine al_28 eX7_assign_23 ?_
    rw [row_kne (by decide), esz]
    have hs1 := hsz t ht.1 ht.2
    refine wp_icmp_ge eX7_assign_24 (fun c24 => ?_) (fun c24 => ?_)
    · omega
    · refine wp_iload eX7_assign_27 rfl ?_
      refine wp_aload_n eX7_assign_29 rfl ?_
      refine gf_X7_37 eX7_assign_30 ?_
      rw [row_kne (by decide), e6]
      refine wp_icmp_ge eX7_assign_33 (fun c33 => ?_) (fun c33 => ?_)
      · have hk9 : as_in it ni (dd t) (n + 1) p dk mv = (p, dk, mv) := by
          simp only [as_in]
          rw [if_neg (by omega)]
        rw [hk9] at k
        exact k _ _
      · refine wp_aload_n eX7_assign_36 rfl ?_
        refine gf_X7_9 eX7_assign_37 ?_
        refine wp_iload eX7_assign_40 rfl ?_
        refine al_26 eX7_assign_42 ?_
        rw [row_kne (by decide), eit]
        have hi1 := hit p (by omega) (by omega)
        have hd2 := hdk (it p) hi1.1 hi1.2
        have hd3 := hdd t ht.1 ht.2
        refine ist_8 eX7_assign_43 ?_
        refine wp_aload_n eX7_assign_45 rfl ?_
        refine gf_X7_82 eX7_assign_46 ?_
        refine wp_iload eX7_assign_49 rfl ?_
        refine al_9 eX7_assign_51 ?_
        rw [row_at]
        refine wp_aload_n eX7_assign_52 rfl ?_
        refine gf_X7_15 eX7_assign_53 ?_
        refine wp_iload eX7_assign_56 rfl ?_
        refine al_27 eX7_assign_58 ?_
        rw [row_kne (by decide), edd]
        refine wp_icmp_eq eX7_assign_59 (fun c59 => ?_) (fun c59 => ?_)
        · have hk9 : as_in it ni (dd t) (n + 1) p dk mv = as_in it ni (dd t) n (p + 1) dk mv := by
            simp only [as_in]
            rw [if_pos (by omega), if_pos (by omega), ← c59, bu_same]
          rw [hk9] at k
          refine inc_5 eX7_assign_79 ?_
          refine inc_7 eX7_assign_82 ?_
          refine wp_goto eX7_assign_85 ?_
          exact ih (x + 1) (p + 1) _ _ _ (by omega) (by omega) (by omega) hdk k
        · have hk9 : as_in it ni (dd t) (n + 1) p dk mv = as_in it ni (dd t) n (p + 1) (bc_u dk (it p) (dd t)) (mv + 1) := by
            simp only [as_in]
            rw [if_pos (by omega), if_neg (by omega)]
          rw [hk9] at k
          have hdk : ∀ q, 0 ≤ q → q < 16 → 0 ≤ bc_u dk (it p) (dd t) q ∧ bc_u dk (it p) (dd t) q < 10000 := fun q a b => by
            by_cases hq : q = it p
            · subst hq; rw [u_at]; omega
            · rw [u_ne hq]; exact hdk q a b
          refine wp_aload_n eX7_assign_62 rfl ?_
          refine gf_X7_82 eX7_assign_63 ?_
          refine wp_iload eX7_assign_66 rfl ?_
          refine wp_aload_n eX7_assign_68 rfl ?_
          refine gf_X7_15 eX7_assign_69 ?_
          refine wp_iload eX7_assign_72 rfl ?_
          refine al_27 eX7_assign_74 ?_
          rw [row_kne (by decide), edd]
          refine as_9 eX7_assign_75 ?_
          rw [up_row]
          refine inc_4 eX7_assign_76 ?_
          refine inc_5 eX7_assign_79 ?_
          refine inc_7 eX7_assign_82 ?_
          refine wp_goto eX7_assign_85 ?_
          exact ih (x + 1) (p + 1) _ _ _ (by omega) (by omega) (by omega) hdk k
theorem lp_as28 {G : bc_G} {M : bc_M} {post : bc_R → bc_M → Prop} {z kk ni : Int} {it dd sz : Int → Int} (hz : 0 ≤ z ∧ z < 13) (hk : 0 ≤ kk ∧ kk ≤ 4) (hni : 0 ≤ ni ∧ ni ≤ 16) (e6 : M 6 z 3 = ni) (eit : M 26 0 = it) (edd : M 27 0 = dd) (esz : M 28 0 = sz) (hit : ∀ q, 0 ≤ q → q < ni → 0 ≤ it q ∧ it q < 16) (hsz : ∀ q, 0 ≤ q → q < kk → 0 ≤ sz q ∧ sz q ≤ 1000) (hdd : ∀ q, 0 ≤ q → q < kk → 0 ≤ dd q ∧ dd q < 4) : ∀ (n : Nat) (t p mv : Int) (dk : Int → Int) (y y8 : Option Value) (h1 : t + n = kk) (h2 : 0 ≤ t) (hp : 0 ≤ p ∧ p ≤ ni) (hdk : ∀ q, 0 ≤ q → q < 16 → 0 ≤ dk q ∧ dk q < 10000) (k : post (.inr (some (vI (as_out it dd sz ni n t p dk mv).2))) (bc_row M 9 z (as_out it dd sz ni n t p dk mv).1)), bc_W G RX7 cX7_assign 9 (some .int) 1 0 0 9 [some (vR G 25 0), some (vR G 28 0), some (vI kk), some (vR G 6 z), some (vI mv), some (vI p), some (vI t), y, y8] [] (bc_row M 9 z dk) post := by
  intro n
  induction n with
  | zero =>
    intro t p mv dk y y8 h1 h2 hp hdk k
    refine wp_iload eX7_assign_9 rfl ?_
    refine wp_iload_n eX7_assign_11 rfl ?_
    refine wp_icmp_ge eX7_assign_12 (fun c12 => ?_) (fun c12 => ?_)
    · refine wp_iload eX7_assign_94 rfl ?_
      refine wp_ireturn eX7_assign_96 ?_
      simpa only [as_out] using k
    · omega
  | succ n ih =>
    intro t p mv dk y y8 h1 h2 hp hdk k
    refine wp_iload eX7_assign_9 rfl ?_
    refine wp_iload_n eX7_assign_11 rfl ?_
    refine wp_icmp_ge eX7_assign_12 (fun c12 => ?_) (fun c12 => ?_)
    · omega
    · refine wp_iconst eX7_assign_15 ?_
      refine ist_7 eX7_assign_16 ?_
      have hs1 := hsz t (by omega) (by omega)
      refine lp_asIn28 hz hk hni e6 eit edd esz hit hsz hdd (t := t) (by omega) (sz t).toNat 0 p mv dk y8 (by omega) (by omega) hp hdk (fun x9 y9 => ?_)
      simp only [as_out] at k
      have hr9 := as_in_rng (it := it) (ni := ni) (d := dd t) (sz t).toNat p dk mv hp.1 hp.2
      refine inc_6 eX7_assign_88 ?_
      refine wp_goto eX7_assign_91 ?_
      exact ih (t + 1) _ _ _ _ _ (by omega) (by omega) ⟨by omega, hr9.2.1⟩ (as_in_dk9 (hdd t (by omega) (by omega)) _ _ _ _ hdk) k
theorem ct_assign28 {G : bc_G} {M : bc_M} {post : bc_R → bc_M → Prop} {z kk ni : Int} {it dd sz : Int → Int} (hz : 0 ≤ z ∧ z < 13) (hk : 0 ≤ kk ∧ kk ≤ 4) (hni : 0 ≤ ni ∧ ni ≤ 16) (e6 : M 6 z 3 = ni) (eit : M 26 0 = it) (edd : M 27 0 = dd) (esz : M 28 0 = sz) (hit : ∀ q, 0 ≤ q → q < ni → 0 ≤ it q ∧ it q < 16) (hsz : ∀ q, 0 ≤ q → q < kk → 0 ≤ sz q ∧ sz q ≤ 1000) (hdd : ∀ q, 0 ≤ q → q < kk → 0 ≤ dd q ∧ dd q < 4) (hdk : ∀ q, 0 ≤ q → q < 16 → 0 ≤ M 9 z q ∧ M 9 z q < 10000) (k : post (.inr (some (vI (as_out it dd sz ni kk.toNat 0 0 (M 9 z) 0).2))) (bc_row M 9 z (as_out it dd sz ni kk.toNat 0 0 (M 9 z) 0).1)) : bc_Call G yX7_assign cX7_assign 9 (some .int) 1 0 [vR G 25 0, vR G 28 0, vI kk, vR G 6 z] M post := by
  refine bc_enter (L := [some (vR G 25 0), some (vR G 28 0), some (vI kk), some (vR G 6 z), none, none, none, none, none]) (by decide) rfl rfl ?_
  refine wp_iconst eX7_assign_0 ?_
  refine ist_4 eX7_assign_1 ?_
  refine wp_iconst eX7_assign_3 ?_
  refine ist_5 eX7_assign_4 ?_
  refine wp_iconst eX7_assign_6 ?_
  refine ist_6 eX7_assign_7 ?_
  rw [← row_self (M := M) (k := 9) (j := z)]
  exact lp_as28 hz hk hni e6 eit edd esz hit hsz hdd kk.toNat 0 0 0 (M 9 z) none none (by omega) (by omega) (by omega) hdk k
theorem ct_applyBest {G : bc_G} {M : bc_M} {post : bc_R → bc_M → Prop} {z kk ni : Int} {it dd sz : Int → Int} (hz : 0 ≤ z ∧ z < 13) (hk : 0 ≤ kk ∧ kk ≤ 4) (hni : 0 ≤ ni ∧ ni ≤ 16) (e6 : M 6 z 3 = ni) (eit : M 26 0 = it) (edd : M 27 0 = dd) (esz : M 28 0 = sz) (hit : ∀ q, 0 ≤ q → q < ni → 0 ≤ it q ∧ it q < 16) (hsz : ∀ q, 0 ≤ q → q < kk → 0 ≤ sz q ∧ sz q ≤ 1000) (hdd : ∀ q, 0 ≤ q → q < kk → 0 ≤ dd q ∧ dd q < 4) (hdk : ∀ q, 0 ≤ q → q < 16 → 0 ≤ M 9 z q ∧ M 9 z q < 10000) (k : post (.inr (some (vI (as_out it dd sz ni kk.toNat 0 0 (M 9 z) 0).2))) (bc_row M 9 z (as_out it dd sz ni kk.toNat 0 0 (M 9 z) 0).1)) : bc_Call G yX7_applyBest cX7_applyBest 3 (some .int) 2 0 [vR G 25 0, vR G 6 z, vI kk] M post := by
  refine bc_enter (L := [some (vR G 25 0), some (vR G 6 z), some (vI kk)]) (by decide) rfl rfl ?_
  refine wp_aload_n eX7_applyBest_0 rfl ?_
  refine wp_aload_n eX7_applyBest_1 rfl ?_
  refine gf_X7_18 eX7_applyBest_2 ?_
  refine wp_iload_n eX7_applyBest_5 rfl ?_
  refine wp_aload_n eX7_applyBest_6 rfl ?_
  refine c_X7_56 eX7_applyBest_7 (ct_assign28 hz hk hni e6 eit edd esz hit hsz hdd hdk ?_)
  refine wp_ireturn eX7_applyBest_10 ?_
  exact k
def or_sw (g : Int → Int) (a b : Int) : Int → Int := bc_u (bc_u g a (g b)) b (g a)
theorem ct_swap {G : bc_G} {M : bc_M} {post : bc_R → bc_M → Prop} {a b : Int} (ha : 0 ≤ a ∧ a < 5) (hb : 0 ≤ b ∧ b < 5) (k : post (.inr none) (bc_row M 32 0 (or_sw (M 32 0) a b))) : bc_Call G yX3_swap cX3_swap 4 none 1 0 [vR G 30 0, vI a, vI b] M post := by
  refine bc_enter (L := [some (vR G 30 0), some (vI a), some (vI b), none]) (by decide) rfl rfl ?_
  refine wp_aload_n eX3_swap_0 rfl ?_
  refine gf_X3_22 eX3_swap_1 ?_
  refine wp_iload_n eX3_swap_4 rfl ?_
  refine al_32 eX3_swap_5 ?_
  refine ist_3 eX3_swap_6 ?_
  refine wp_aload_n eX3_swap_7 rfl ?_
  refine gf_X3_22 eX3_swap_8 ?_
  refine wp_iload_n eX3_swap_11 rfl ?_
  refine wp_aload_n eX3_swap_12 rfl ?_
  refine gf_X3_22 eX3_swap_13 ?_
  refine wp_iload_n eX3_swap_16 rfl ?_
  refine al_32 eX3_swap_17 ?_
  refine as_32 eX3_swap_18 ?_
  refine wp_aload_n eX3_swap_19 rfl ?_
  refine gf_X3_22 eX3_swap_20 ?_
  refine wp_iload_n eX3_swap_23 rfl ?_
  refine wp_iload_n eX3_swap_24 rfl ?_
  refine as_32 eX3_swap_25 ?_
  refine wp_return eX3_swap_26 ?_
  have e1 : bc_up (bc_up M 32 0 a (M 32 0 b)) 32 0 b (M 32 0 a) = bc_row M 32 0 (or_sw (M 32 0) a b) := by
    unfold or_sw
    rw [← up_row, ← up_row, row_self]
  rw [e1]
  exact k
def or_rev : Nat → Int → Int → (Int → Int) → (Int → Int)
  | 0, _, _, g => g
  | n + 1, lo, hi, g => if lo < hi then or_rev n (lo + 1) (hi - 1) (or_sw g lo hi) else g
theorem lp_rev {G : bc_G} {M : bc_M} {post : bc_R → bc_M → Prop} {s : Int} : ∀ (n : Nat) (lo hi : Int) (g : Int → Int) (h1 : hi - lo < n) (h2 : 0 ≤ lo) (h3 : hi < 5) (h4 : lo ≤ 7) (h5 : -3 ≤ hi) (k : post (.inr none) (bc_row M 32 0 (or_rev n lo hi g))), bc_W G RX3 cX3_reverseFrom 4 none 2 0 0 9 [some (vR G 30 0), some (vI s), some (vI lo), some (vI hi)] [] (bc_row M 32 0 g) post := by
  intro n
  induction n with
  | zero =>
    intro lo hi g h1 h2 h3 h4 h5 k
    refine wp_iload_n eX3_reverseFrom_9 rfl ?_
    refine wp_iload_n eX3_reverseFrom_10 rfl ?_
    refine wp_icmp_ge eX3_reverseFrom_11 (fun c11 => ?_) (fun c11 => ?_)
    · simp only [or_rev] at k
      refine wp_return eX3_reverseFrom_29 ?_
      exact k
    · omega
  | succ n ih =>
    intro lo hi g h1 h2 h3 h4 h5 k
    refine wp_iload_n eX3_reverseFrom_9 rfl ?_
    refine wp_iload_n eX3_reverseFrom_10 rfl ?_
    refine wp_icmp_ge eX3_reverseFrom_11 (fun c11 => ?_) (fun c11 => ?_)
    · simp only [or_rev] at k
      rw [if_neg (by omega)] at k
      refine wp_return eX3_reverseFrom_29 ?_
      exact k
    · simp only [or_rev] at k
      rw [if_pos (by omega)] at k
      refine wp_aload_n eX3_reverseFrom_14 rfl ?_
      refine wp_iload_n eX3_reverseFrom_15 rfl ?_
      refine wp_iload_n eX3_reverseFrom_16 rfl ?_
      refine c_X3_70 eX3_reverseFrom_17 (ct_swap (by omega) (by omega) ?_)
      rw [row_row, row_at]
      refine inc_2 eX3_reverseFrom_20 ?_
      refine inc_3 eX3_reverseFrom_23 ?_
      rw [show hi + -1 = hi - 1 by omega]
      refine wp_goto eX3_reverseFrom_26 ?_
      exact ih (lo + 1) (hi - 1) _ (by omega) (by omega) (by omega) (by omega) (by omega) k
theorem ct_reverseFrom {G : bc_G} {M : bc_M} {post : bc_R → bc_M → Prop} {s : Int} (hs : 0 ≤ s ∧ s ≤ 5) (hc : 0 ≤ M 30 0 2 ∧ M 30 0 2 ≤ 5) (k : post (.inr none) (bc_row M 32 0 (or_rev 6 s (M 30 0 2 - 1) (M 32 0)))) : bc_Call G yX3_reverseFrom cX3_reverseFrom 4 none 2 0 [vR G 30 0, vI s] M post := by
  refine bc_enter (L := [some (vR G 30 0), some (vI s), none, none]) (by decide) rfl rfl ?_
  refine wp_iload_n eX3_reverseFrom_0 rfl ?_
  refine ist_2 eX3_reverseFrom_1 ?_
  refine wp_aload_n eX3_reverseFrom_2 rfl ?_
  refine gf_X3_19 eX3_reverseFrom_3 ?_
  refine wp_iconst eX3_reverseFrom_6 ?_
  refine wp_isub eX3_reverseFrom_7 ?_
  refine ist_3 eX3_reverseFrom_8 ?_
  rw [← row_self (M := M) (k := 32) (j := 0)]
  exact lp_rev 6 s (M 30 0 2 - 1) _ (by omega) (by omega) (by omega) (by omega) (by omega) (by simpa only [row_self, row_row, row_at, row_kne (show (30 : Nat) ≠ 32 by decide)] using k)
def or_fit (g : Int → Int) (p : Int) : Nat → Int → Int
  | 0, x => x
  | n + 1, x => if g x < g p then or_fit g p n (x - 1) else x
def or_nx (g : Int → Int) (c : Int) : Nat → Int → Bool × (Int → Int)
  | 0, _ => (false, g)
  | n + 1, p => if g p < g (p + 1) then (true, or_rev 6 (p + 1) (c - 1) (or_sw g p (or_fit g p (c - 2 - p).toNat (c - 1)))) else or_nx g c n (p - 1)
def or_next (g : Int → Int) (c : Int) : Bool × (Int → Int) := or_nx g c (c - 1).toNat (c - 2)
theorem or_fit_rng {g : Int → Int} {p : Int} : ∀ (n : Nat) (x : Int), x - n ≤ or_fit g p n x ∧ or_fit g p n x ≤ x
  | 0, x => by simp [or_fit]
  | n + 1, x => by
    simp only [or_fit]
    split
    · have := or_fit_rng (g := g) (p := p) n (x - 1); omega
    · omega
theorem lp_orFit {G : bc_G} {M : bc_M} {post : bc_R → bc_M → Prop} {c : Int} {g : Int → Int} (hc : 0 ≤ c ∧ c ≤ 5) (e30 : M 30 0 2 = c) (e32 : M 32 0 = g) (hg : ∀ q, 0 ≤ q → q < c → 0 ≤ g q ∧ g q < 16) {p : Int} (hp : 0 ≤ p ∧ p ≤ c - 2) : ∀ (n : Nat) (x : Int) (h1 : x = p + 1 + n) (h2 : x < c) (k : bc_W G RX3 cX3_nextOrder 3 (some .boolean) 3 0 0 63 [some (vR G 30 0), some (vI p), some (vI (or_fit g p n x))] [] M post), bc_W G RX3 cX3_nextOrder 3 (some .boolean) 3 0 0 35 [some (vR G 30 0), some (vI p), some (vI x)] [] M post := by
  intro n
  induction n with
  | zero =>
    intro x h1 h2 k
    refine wp_iload_n eX3_nextOrder_35 rfl ?_
    refine wp_iload_n eX3_nextOrder_36 rfl ?_
    refine wp_iconst eX3_nextOrder_37 ?_
    refine wp_iadd eX3_nextOrder_38 ?_
    refine wp_icmp_le eX3_nextOrder_39 (fun c39 => ?_) (fun c39 => ?_)
    · simp only [or_fit] at k
      exact k
    · omega
  | succ n ih =>
    intro x h1 h2 k
    refine wp_iload_n eX3_nextOrder_35 rfl ?_
    refine wp_iload_n eX3_nextOrder_36 rfl ?_
    refine wp_iconst eX3_nextOrder_37 ?_
    refine wp_iadd eX3_nextOrder_38 ?_
    refine wp_icmp_le eX3_nextOrder_39 (fun c39 => ?_) (fun c39 => ?_)
    · omega
    · refine wp_aload_n eX3_nextOrder_42 rfl ?_
      refine gf_X3_22 eX3_nextOrder_43 ?_
      refine wp_iload_n eX3_nextOrder_46 rfl ?_
      refine al_32 eX3_nextOrder_47 ?_
      rw [e32]
      have hg1 := hg x (by omega) (by omega)
      have hg2 := hg p (by omega) (by omega)
      refine wp_aload_n eX3_nextOrder_48 rfl ?_
      refine gf_X3_22 eX3_nextOrder_49 ?_
      refine wp_iload_n eX3_nextOrder_52 rfl ?_
      refine al_32 eX3_nextOrder_53 ?_
      rw [e32]
      refine wp_icmp_ge eX3_nextOrder_54 (fun c54 => ?_) (fun c54 => ?_)
      · simp only [or_fit] at k
        rw [if_neg (by omega)] at k
        exact k
      · simp only [or_fit] at k
        rw [if_pos (by omega)] at k
        refine inc_2 eX3_nextOrder_57 ?_
        rw [show x + -1 = x - 1 by omega]
        refine wp_goto eX3_nextOrder_60 ?_
        exact ih (x - 1) (by omega) (by omega) k
theorem lp_orNx {G : bc_G} {M : bc_M} {post : bc_R → bc_M → Prop} {c : Int} {g : Int → Int} (hc : 0 ≤ c ∧ c ≤ 5) (e30 : M 30 0 2 = c) (e32 : M 32 0 = g) (hg : ∀ q, 0 ≤ q → q < c → 0 ≤ g q ∧ g q < 16) : ∀ (n : Nat) (p : Int) (y : Option Value) (h1 : p + 1 = n) (h2 : p ≤ c - 2 ∨ p = -1) (k : post (.inr (some (vI (if (or_nx g c n p).1 then 1 else 0)))) (bc_row M 32 0 (or_nx g c n p).2)), bc_W G RX3 cX3_nextOrder 3 (some .boolean) 3 0 0 7 [some (vR G 30 0), some (vI p), y] [] M post := by
  intro n
  induction n with
  | zero =>
    intro p y h1 h2 k
    refine wp_iload_n eX3_nextOrder_7 rfl ?_
    refine wp_if_lt eX3_nextOrder_8 (fun c8 => ?_) (fun c8 => ?_)
    · simp only [or_nx] at k
      rw [show bc_row M 32 0 g = M by rw [← e32, row_self]] at k
      refine wp_iconst eX3_nextOrder_84 ?_
      refine wp_zreturn eX3_nextOrder_85 (by decide) ?_
      exact k
    · omega
  | succ n ih =>
    intro p y h1 h2 k
    refine wp_iload_n eX3_nextOrder_7 rfl ?_
    refine wp_if_lt eX3_nextOrder_8 (fun c8 => ?_) (fun c8 => ?_)
    · omega
    · refine wp_aload_n eX3_nextOrder_11 rfl ?_
      refine gf_X3_22 eX3_nextOrder_12 ?_
      refine wp_iload_n eX3_nextOrder_15 rfl ?_
      refine al_32 eX3_nextOrder_16 ?_
      rw [e32]
      have hg1 := hg p (by omega) (by omega)
      have hg2 := hg (p + 1) (by omega) (by omega)
      refine wp_aload_n eX3_nextOrder_17 rfl ?_
      refine gf_X3_22 eX3_nextOrder_18 ?_
      refine wp_iload_n eX3_nextOrder_21 rfl ?_
      refine wp_iconst eX3_nextOrder_22 ?_
      refine wp_iadd eX3_nextOrder_23 ?_
      refine al_32 eX3_nextOrder_24 ?_
      rw [e32]
      refine wp_icmp_ge eX3_nextOrder_25 (fun c25 => ?_) (fun c25 => ?_)
      · have hk9 : or_nx g c (n + 1) p = or_nx g c n (p - 1) := by
          simp only [or_nx]
          rw [if_neg (by omega)]
        rw [hk9] at k
        refine inc_1 eX3_nextOrder_78 ?_
        rw [show p + -1 = p - 1 by omega]
        refine wp_goto eX3_nextOrder_81 ?_
        exact ih (p - 1) _ (by omega) (by omega) k
      · have hk9 : or_nx g c (n + 1) p = (true, or_rev 6 (p + 1) (c - 1) (or_sw g p (or_fit g p (c - 2 - p).toNat (c - 1)))) := by
          simp only [or_nx]
          rw [if_pos (by omega)]
        rw [hk9] at k
        refine wp_aload_n eX3_nextOrder_28 rfl ?_
        refine gf_X3_19 eX3_nextOrder_29 ?_
        rw [e30]
        refine wp_iconst eX3_nextOrder_32 ?_
        refine wp_isub eX3_nextOrder_33 ?_
        refine ist_2 eX3_nextOrder_34 ?_
        refine lp_orFit hc e30 e32 hg (p := p) (by omega) (c - 2 - p).toNat (c - 1) (by omega) (by omega) ?_
        have hf := or_fit_rng (g := g) (p := p) (c - 2 - p).toNat (c - 1)
        refine wp_aload_n eX3_nextOrder_63 rfl ?_
        refine wp_iload_n eX3_nextOrder_64 rfl ?_
        refine wp_iload_n eX3_nextOrder_65 rfl ?_
        refine c_X3_70 eX3_nextOrder_66 (ct_swap (by omega) (by omega) ?_)
        rw [e32]
        refine wp_aload_n eX3_nextOrder_69 rfl ?_
        refine wp_iload_n eX3_nextOrder_70 rfl ?_
        refine wp_iconst eX3_nextOrder_71 ?_
        refine wp_iadd eX3_nextOrder_72 ?_
        refine c_X3_73 eX3_nextOrder_73 (ct_reverseFrom (by omega) (by rw [row_kne (by decide)]; omega) ?_)
        rw [row_kne (by decide), row_row, row_at, e30]
        refine wp_iconst eX3_nextOrder_76 ?_
        refine wp_zreturn eX3_nextOrder_77 (by decide) ?_
        exact k
theorem or_nx_neg {g : Int → Int} {c p : Int} : or_nx g c 0 p = (false, g) := rfl
theorem ct_nextOrder {G : bc_G} {M : bc_M} {post : bc_R → bc_M → Prop} {c : Int} {g : Int → Int} (hc : 0 ≤ c ∧ c ≤ 5) (e30 : M 30 0 2 = c) (e32 : M 32 0 = g) (hg : ∀ q, 0 ≤ q → q < c → 0 ≤ g q ∧ g q < 16) (k : post (.inr (some (vI (if (or_next g c).1 then 1 else 0)))) (bc_row M 32 0 (or_next g c).2)) : bc_Call G yX3_nextOrder cX3_nextOrder 3 (some .boolean) 3 0 [vR G 30 0] M post := by
  refine bc_enter (L := [some (vR G 30 0), none, none]) (by decide) rfl rfl ?_
  refine wp_aload_n eX3_nextOrder_0 rfl ?_
  refine gf_X3_19 eX3_nextOrder_1 ?_
  rw [e30]
  refine wp_iconst eX3_nextOrder_4 ?_
  refine wp_isub eX3_nextOrder_5 ?_
  refine ist_1 eX3_nextOrder_6 ?_
  by_cases hc1 : 1 ≤ c
  · exact lp_orNx hc e30 e32 hg (c - 1).toNat (c - 2) none (by omega) (by omega) k
  · have hn : (c - 1).toNat = 0 := by omega
    unfold or_next at k
    rw [hn] at k
    refine wp_iload_n eX3_nextOrder_7 rfl ?_
    refine wp_if_lt eX3_nextOrder_8 (fun c8 => ?_) (fun c8 => ?_)
    · simp only [or_nx] at k
      rw [show bc_row M 32 0 g = M by rw [← e32, row_self]] at k
      refine wp_iconst eX3_nextOrder_84 ?_
      refine wp_zreturn eX3_nextOrder_85 (by decide) ?_
      exact k
    · omega
def or_first (s : Int) : Nat → Int → Int → (Int → Int) → Int × (Int → Int)
  | 0, _, c, g => (c, g)
  | n + 1, i, c, g => if c < 5 then (if bs s i then or_first s n (i + 1) (c + 1) (bc_u g c i) else or_first s n (i + 1) c g) else (c, g)
def orM (M : bc_M) (r : Int × (Int → Int)) : bc_M := bc_row (bc_up M 30 0 2 r.1) 32 0 r.2
theorem orM_st {M : bc_M} {c i : Int} {g : Int → Int} : bc_up (bc_up (orM M (c, g)) 32 0 c i) 30 0 2 (c + 1) = orM M (c + 1, bc_u g c i) := by
  funext k' j' f'
  simp only [orM, bc_up, bc_row, bc_u]
  by_cases h1 : k' = 30 ∧ j' = 0
  · obtain ⟨a, b⟩ := h1
    subst a b
    by_cases hf : f' = 2 <;> simp [hf, bc_u]
  · rw [if_neg h1, if_neg h1]
    by_cases h2 : k' = 32 ∧ j' = 0 <;> simp [h1, h2]

theorem orM_c {M : bc_M} {c : Int} {g : Int → Int} : orM M (c, g) 30 0 2 = c := by
  unfold orM
  rw [row_kne (by decide), up_v, if_pos rfl]
theorem lp_orFirst {G : bc_G} {M : bc_M} {post : bc_R → bc_M → Prop} {s it : Int} (hs : 0 ≤ s ∧ s < 65536) (hit : 0 ≤ it ∧ it ≤ 16) : ∀ (n : Nat) (i c : Int) (g : Int → Int) (h1 : i + n = it) (h2 : 0 ≤ i) (hcc : 0 ≤ c ∧ c ≤ 5) (k : post (.inr none) (orM M (or_first s n i c g))), bc_W G RX3 cX3_firstOrder 4 none 2 0 0 7 [some (vR G 30 0), some (vI s), some (vI it), some (vI i)] [] (orM M (c, g)) post := by
  intro n
  induction n with
  | zero =>
    intro i c g h1 h2 hcc k
    refine wp_iload_n eX3_firstOrder_7 rfl ?_
    refine wp_iload_n eX3_firstOrder_8 rfl ?_
    refine wp_icmp_ge eX3_firstOrder_9 (fun c9 => ?_) (fun c9 => ?_)
    · simp only [or_first] at k
      refine wp_return eX3_firstOrder_54 ?_
      exact k
    · omega
  | succ n ih =>
    intro i c g h1 h2 hcc k
    refine wp_iload_n eX3_firstOrder_7 rfl ?_
    refine wp_iload_n eX3_firstOrder_8 rfl ?_
    refine wp_icmp_ge eX3_firstOrder_9 (fun c9 => ?_) (fun c9 => ?_)
    · omega
    · refine wp_aload_n eX3_firstOrder_12 rfl ?_
      refine gf_X3_19 eX3_firstOrder_13 ?_
      rw [orM_c]
      refine wp_iconst eX3_firstOrder_16 ?_
      refine wp_icmp_ge eX3_firstOrder_17 (fun c17 => ?_) (fun c17 => ?_)
      · have hk9 : or_first s (n + 1) i c g = (c, g) := by
          simp only [or_first]
          rw [if_neg (by omega)]
        rw [hk9] at k
        refine wp_return eX3_firstOrder_54 ?_
        exact k
      · refine wp_iload_n eX3_firstOrder_20 rfl ?_
        refine wp_iload_n eX3_firstOrder_21 rfl ?_
        refine c_X3_55 eX3_firstOrder_22 (ct_isIn ?_)
        refine wp_if_eq eX3_firstOrder_25 (fun c25 => ?_) (fun c25 => ?_) (by split <;> omega)
        · have hk9 : or_first s (n + 1) i c g = or_first s n (i + 1) c g := by
            simp only [or_first]
            rw [if_pos (by omega), if_neg (by intro h9; rw [h9] at c25; exact absurd c25 (by decide))]
          rw [hk9] at k
          refine inc_3 eX3_firstOrder_48 ?_
          refine wp_goto eX3_firstOrder_51 ?_
          first
          | exact ih (i + 1) c g (by omega) (by omega) (by omega) k
          | (rw [orM_st]; exact ih (i + 1) (c + 1) _ (by omega) (by omega) (by omega) k)
        · have hb : bs s i = true := by
            cases h : bs s i
            · rw [h] at c25; exact absurd rfl c25
            · rfl
          have hk9 : or_first s (n + 1) i c g = or_first s n (i + 1) (c + 1) (bc_u g c i) := by
            simp only [or_first]
            rw [if_pos (by omega), if_pos hb]
          rw [hk9] at k
          refine wp_aload_n eX3_firstOrder_28 rfl ?_
          refine gf_X3_22 eX3_firstOrder_29 ?_
          refine wp_aload_n eX3_firstOrder_32 rfl ?_
          refine gf_X3_19 eX3_firstOrder_33 ?_
          rw [orM_c]
          refine wp_iload_n eX3_firstOrder_36 rfl ?_
          refine as_32 eX3_firstOrder_37 ?_
          refine wp_aload_n eX3_firstOrder_38 rfl ?_
          refine wp_dup eX3_firstOrder_39 ?_
          refine gf_X3_19 eX3_firstOrder_40 ?_
          rw [up_kne (by decide), orM_c]
          refine wp_iconst eX3_firstOrder_43 ?_
          refine wp_iadd eX3_firstOrder_44 ?_
          refine pf_X3_19 eX3_firstOrder_45 ?_
          refine inc_3 eX3_firstOrder_48 ?_
          refine wp_goto eX3_firstOrder_51 ?_
          first
          | exact ih (i + 1) c g (by omega) (by omega) (by omega) k
          | (rw [orM_st]; exact ih (i + 1) (c + 1) _ (by omega) (by omega) (by omega) k)
theorem ct_firstOrder {G : bc_G} {M : bc_M} {post : bc_R → bc_M → Prop} {s it : Int} (hs : 0 ≤ s ∧ s < 65536) (hit : 0 ≤ it ∧ it ≤ 16) (k : post (.inr none) (orM M (or_first s it.toNat 0 0 (M 32 0)))) : bc_Call G yX3_firstOrder cX3_firstOrder 4 none 2 0 [vR G 30 0, vI s, vI it] M post := by
  refine bc_enter (L := [some (vR G 30 0), some (vI s), some (vI it), none]) (by decide) rfl rfl ?_
  refine wp_aload_n eX3_firstOrder_0 rfl ?_
  refine wp_iconst eX3_firstOrder_1 ?_
  refine pf_X3_19 eX3_firstOrder_2 ?_
  refine wp_iconst eX3_firstOrder_5 ?_
  refine ist_3 eX3_firstOrder_6 ?_
  have e1 : bc_up M 30 0 2 0 = orM M (0, M 32 0) := by
    unfold orM
    rw [show M 32 0 = bc_up M 30 0 2 0 32 0 by rw [up_kne (by decide)], row_self]
  rw [e1]
  exact lp_orFirst hs hit it.toNat 0 0 _ (by omega) (by omega) (by omega) k
