theorem up_row {M : bc_M} {k : Nat} {j f v : Int} {g : Int → Int} : bc_up (bc_row M k j g) k j f v = bc_row M k j (bc_u g f v) := by
  funext k' j'
  simp only [bc_up, bc_row]
  split
  · rw [if_pos (by simp)]
  · rfl
theorem row_row {M : bc_M} {k : Nat} {j : Int} {g h : Int → Int} : bc_row (bc_row M k j g) k j h = bc_row M k j h := by
  funext k' j'
  simp only [bc_row]
  split <;> rfl
theorem row_self {M : bc_M} {k : Nat} {j : Int} : bc_row M k j (M k j) = M := by
  funext k' j'
  simp only [bc_row]
  split
  · rename_i h; rw [h.1, h.2]
  · rfl
theorem row_fr {M : bc_M} {k : Nat} {j : Int} {g : Int → Int} : Fr (at1 k j) M (bc_row M k j g) := by
  intro k' j' hn
  simp only [bc_row]
  unfold at1 at hn
  rw [if_neg hn]
/-- x goes in at the place that its value asks for, among the p before -/
def rk_in (v : Int → Int) (x : Int) : Nat → Int → (Int → Int) → (Int → Int)
  | 0, p, r => bc_u r p x
  | n + 1, p, r => if v (r (p - 1)) < v x then rk_in v x n (p - 1) (bc_u r p (r (p - 1))) else bc_u r p x
def rk_all (v : Int → Int) : Nat → Int → (Int → Int) → (Int → Int)
  | 0, _, r => r
  | n + 1, x, r => rk_all v n (x + 1) (rk_in v x x.toNat x r)
theorem rk_in_rng {v : Int → Int} {x : Int} (hx : 0 ≤ x) : ∀ (n : Nat) (p : Int) (r : Int → Int), p = n → p ≤ x → (∀ q, 0 ≤ q → q < p → 0 ≤ r q ∧ r q < x) → (∀ q, p < q → q ≤ x → 0 ≤ r q ∧ r q < x) → ∀ q, 0 ≤ q → q < x + 1 → 0 ≤ rk_in v x n p r q ∧ rk_in v x n p r q < x + 1
  | 0, p, r, hp, hpx, h1, h2 => fun q a b => by
    simp only [rk_in]
    by_cases hq : q = p
    · subst hq; rw [u_at]; omega
    · rw [u_ne hq]; have := h2 q (by omega) (by omega); omega
  | n + 1, p, r, hp, hpx, h1, h2 => fun q a b => by
    simp only [rk_in]
    split
    · refine rk_in_rng hx n (p - 1) _ (by omega) (by omega) (fun q a b => ?_) (fun q a b => ?_) q a b
      · rw [u_ne (by omega)]; exact h1 q (by omega) (by omega)
      · by_cases hq : q = p
        · subst hq; rw [u_at]; exact h1 _ (by omega) (by omega)
        · rw [u_ne hq]; exact h2 q (by omega) (by omega)
    · by_cases hq : q = p
      · subst hq; rw [u_at]; omega
      · rw [u_ne hq]
        by_cases hq2 : q < p
        · have := h1 q (by omega) (by omega); omega
        · have := h2 q (by omega) (by omega); omega
theorem rk_all_rng {v : Int → Int} : ∀ (n : Nat) (x : Int) (r : Int → Int), 0 ≤ x → (∀ q, 0 ≤ q → q < x → 0 ≤ r q ∧ r q < x) → ∀ q, 0 ≤ q → q < x + n → 0 ≤ rk_all v n x r q ∧ rk_all v n x r q < x + n
  | 0, x, r, hx, h => fun q a b => by have := h q a (by omega); simp only [rk_all]; omega
  | n + 1, x, r, hx, h => fun q a b => by
    simp only [rk_all]
    have := rk_all_rng (v := v) n (x + 1) _ (by omega) (rk_in_rng (v := v) hx x.toNat x r (by omega) (by omega) h (fun q a b => by omega)) q a (by omega)
    omega
theorem lp_rkIn8 {G : bc_G} {M : bc_M} {post : bc_R → bc_M → Prop} {z cnt : Int} {v : Int → Int} (hz : 0 ≤ z ∧ z < 13) (e8 : M 8 z = v) (hcn : 0 ≤ cnt ∧ cnt ≤ 16) (hv : ∀ q, 0 ≤ q → q < cnt → 0 ≤ v q ∧ v q ≤ 1000) {x : Int} (hx : 0 ≤ x ∧ x < cnt) : ∀ (n : Nat) (p : Int) (r : Int → Int) (h1 : p = n) (h2 : p ≤ x) (hr : ∀ q, 0 ≤ q → q < p → 0 ≤ r q ∧ r q < x) (k : ∀ y : Int, bc_W G RX7 cX7_rankByValue 5 none 1 0 0 50 [some (vR G 8 z), some (vI cnt), some (vR G 26 0), some (vI x), some (vI y)] [] (bc_row M 26 0 (rk_in v x n p r)) post), bc_W G RX7 cX7_rankByValue 5 none 1 0 0 10 [some (vR G 8 z), some (vI cnt), some (vR G 26 0), some (vI x), some (vI p)] [] (bc_row M 26 0 r) post := by
  intro n
  induction n with
  | zero =>
    intro p r h1 h2 hr k
    have h0 : 0 ≤ p := by omega
    refine wp_iload eX7_rankByValue_10 rfl ?_
    refine wp_if_le eX7_rankByValue_12 (fun c12 => ?_) (fun c12 => ?_)
    · simp only [rk_in] at k
      refine wp_aload_n eX7_rankByValue_45 rfl ?_
      refine wp_iload eX7_rankByValue_46 rfl ?_
      refine wp_iload_n eX7_rankByValue_48 rfl ?_
      refine as_26 eX7_rankByValue_49 ?_
      rw [up_row]
      exact k _
    · omega
  | succ n ih =>
    intro p r h1 h2 hr k
    have h0 : 0 ≤ p := by omega
    refine wp_iload eX7_rankByValue_10 rfl ?_
    refine wp_if_le eX7_rankByValue_12 (fun c12 => ?_) (fun c12 => ?_)
    · omega
    · refine wp_aload_n eX7_rankByValue_15 rfl ?_
      refine wp_aload_n eX7_rankByValue_16 rfl ?_
      refine wp_iload eX7_rankByValue_17 rfl ?_
      refine wp_iconst eX7_rankByValue_19 ?_
      refine wp_isub eX7_rankByValue_20 ?_
      refine al_26 eX7_rankByValue_21 ?_
      rw [row_at]
      have hr1 := hr (p - 1) (by omega) (by omega)
      have hv1 := hv (r (p - 1)) (by omega) (by omega)
      have hv2 := hv x (by omega) (by omega)
      refine al_8 eX7_rankByValue_22 ?_
      rw [row_kne (by decide), e8]
      refine wp_aload_n eX7_rankByValue_23 rfl ?_
      refine wp_iload_n eX7_rankByValue_24 rfl ?_
      refine al_8 eX7_rankByValue_25 ?_
      rw [row_kne (by decide), e8]
      refine wp_icmp_ge eX7_rankByValue_26 (fun c26 => ?_) (fun c26 => ?_)
      · simp only [rk_in] at k
        rw [if_neg (by omega)] at k
        refine wp_aload_n eX7_rankByValue_45 rfl ?_
        refine wp_iload eX7_rankByValue_46 rfl ?_
        refine wp_iload_n eX7_rankByValue_48 rfl ?_
        refine as_26 eX7_rankByValue_49 ?_
        rw [up_row]
        exact k _
      · simp only [rk_in] at k
        rw [if_pos (by omega)] at k
        refine wp_aload_n eX7_rankByValue_29 rfl ?_
        refine wp_iload eX7_rankByValue_30 rfl ?_
        refine wp_aload_n eX7_rankByValue_32 rfl ?_
        refine wp_iload eX7_rankByValue_33 rfl ?_
        refine wp_iconst eX7_rankByValue_35 ?_
        refine wp_isub eX7_rankByValue_36 ?_
        refine al_26 eX7_rankByValue_37 ?_
        rw [row_at]
        refine as_26 eX7_rankByValue_38 ?_
        rw [up_row]
        refine inc_4 eX7_rankByValue_39 ?_
        rw [show p + -1 = p - 1 by omega]
        refine wp_goto eX7_rankByValue_42 ?_
        refine ih (p - 1) _ (by omega) (by omega) (fun q a b => ?_) k
        rw [u_ne (by omega)]
        exact hr q a (by omega)
theorem lp_rk8 {G : bc_G} {M : bc_M} {post : bc_R → bc_M → Prop} {z cnt : Int} {v : Int → Int} (hz : 0 ≤ z ∧ z < 13) (e8 : M 8 z = v) (hcn : 0 ≤ cnt ∧ cnt ≤ 16) (hv : ∀ q, 0 ≤ q → q < cnt → 0 ≤ v q ∧ v q ≤ 1000) : ∀ (n : Nat) (x : Int) (r : Int → Int) (y : Option Value) (h1 : x + n = cnt) (h2 : 0 ≤ x) (hr : ∀ q, 0 ≤ q → q < x → 0 ≤ r q ∧ r q < x) (k : post (.inr none) (bc_row M 26 0 (rk_all v n x r))), bc_W G RX7 cX7_rankByValue 5 none 1 0 0 2 [some (vR G 8 z), some (vI cnt), some (vR G 26 0), some (vI x), y] [] (bc_row M 26 0 r) post := by
  intro n
  induction n with
  | zero =>
    intro x r y h1 h2 hr k
    refine wp_iload_n eX7_rankByValue_2 rfl ?_
    refine wp_iload_n eX7_rankByValue_3 rfl ?_
    refine wp_icmp_ge eX7_rankByValue_4 (fun c4 => ?_) (fun c4 => ?_)
    · refine wp_return eX7_rankByValue_56 ?_
      simpa only [rk_all] using k
    · omega
  | succ n ih =>
    intro x r y h1 h2 hr k
    refine wp_iload_n eX7_rankByValue_2 rfl ?_
    refine wp_iload_n eX7_rankByValue_3 rfl ?_
    refine wp_icmp_ge eX7_rankByValue_4 (fun c4 => ?_) (fun c4 => ?_)
    · omega
    · refine wp_iload_n eX7_rankByValue_7 rfl ?_
      refine ist_4 eX7_rankByValue_8 ?_
      refine lp_rkIn8 hz e8 hcn hv (x := x) (by omega) x.toNat x r (by omega) (by omega) hr (fun y2 => ?_)
      simp only [rk_all] at k
      refine inc_3 eX7_rankByValue_50 ?_
      refine wp_goto eX7_rankByValue_53 ?_
      exact ih (x + 1) _ _ (by omega) (by omega) (rk_in_rng h2 x.toNat x r (by omega) (by omega) hr (fun q a b => by omega)) k
theorem ct_rankBy8 {G : bc_G} {M : bc_M} {post : bc_R → bc_M → Prop} {z cnt : Int} {v : Int → Int} (hz : 0 ≤ z ∧ z < 13) (e8 : M 8 z = v) (hcn : 0 ≤ cnt ∧ cnt ≤ 16) (hv : ∀ q, 0 ≤ q → q < cnt → 0 ≤ v q ∧ v q ≤ 1000) (k : post (.inr none) (bc_row M 26 0 (rk_all v cnt.toNat 0 (M 26 0)))) : bc_Call G yX7_rankByValue cX7_rankByValue 5 none 1 0 [vR G 8 z, vI cnt, vR G 26 0] M post := by
  refine bc_enter (L := [some (vR G 8 z), some (vI cnt), some (vR G 26 0), none, none]) (by decide) rfl rfl ?_
  refine wp_iconst eX7_rankByValue_0 ?_
  refine ist_3 eX7_rankByValue_1 ?_
  rw [← row_self (M := M) (k := 26) (j := 0)]
  exact lp_rk8 hz e8 hcn hv cnt.toNat 0 (M 26 0) none (by omega) (by omega) (fun q a b => by omega) k
theorem lp_rkIn7 {G : bc_G} {M : bc_M} {post : bc_R → bc_M → Prop} {z cnt : Int} {v : Int → Int} (hz : 0 ≤ z ∧ z < 13) (e8 : M 7 z = v) (hcn : 0 ≤ cnt ∧ cnt ≤ 4) (hv : ∀ q, 0 ≤ q → q < cnt → 0 ≤ v q ∧ v q ≤ 1000) {x : Int} (hx : 0 ≤ x ∧ x < cnt) : ∀ (n : Nat) (p : Int) (r : Int → Int) (h1 : p = n) (h2 : p ≤ x) (hr : ∀ q, 0 ≤ q → q < p → 0 ≤ r q ∧ r q < x) (k : ∀ y : Int, bc_W G RX7 cX7_rankByValue 5 none 1 0 0 50 [some (vR G 7 z), some (vI cnt), some (vR G 27 0), some (vI x), some (vI y)] [] (bc_row M 27 0 (rk_in v x n p r)) post), bc_W G RX7 cX7_rankByValue 5 none 1 0 0 10 [some (vR G 7 z), some (vI cnt), some (vR G 27 0), some (vI x), some (vI p)] [] (bc_row M 27 0 r) post := by
  intro n
  induction n with
  | zero =>
    intro p r h1 h2 hr k
    have h0 : 0 ≤ p := by omega
    refine wp_iload eX7_rankByValue_10 rfl ?_
    refine wp_if_le eX7_rankByValue_12 (fun c12 => ?_) (fun c12 => ?_)
    · simp only [rk_in] at k
      refine wp_aload_n eX7_rankByValue_45 rfl ?_
      refine wp_iload eX7_rankByValue_46 rfl ?_
      refine wp_iload_n eX7_rankByValue_48 rfl ?_
      refine as_27 eX7_rankByValue_49 ?_
      rw [up_row]
      exact k _
    · omega
  | succ n ih =>
    intro p r h1 h2 hr k
    have h0 : 0 ≤ p := by omega
    refine wp_iload eX7_rankByValue_10 rfl ?_
    refine wp_if_le eX7_rankByValue_12 (fun c12 => ?_) (fun c12 => ?_)
    · omega
    · refine wp_aload_n eX7_rankByValue_15 rfl ?_
      refine wp_aload_n eX7_rankByValue_16 rfl ?_
      refine wp_iload eX7_rankByValue_17 rfl ?_
      refine wp_iconst eX7_rankByValue_19 ?_
      refine wp_isub eX7_rankByValue_20 ?_
      refine al_27 eX7_rankByValue_21 ?_
      rw [row_at]
      have hr1 := hr (p - 1) (by omega) (by omega)
      have hv1 := hv (r (p - 1)) (by omega) (by omega)
      have hv2 := hv x (by omega) (by omega)
      refine al_7 eX7_rankByValue_22 ?_
      rw [row_kne (by decide), e8]
      refine wp_aload_n eX7_rankByValue_23 rfl ?_
      refine wp_iload_n eX7_rankByValue_24 rfl ?_
      refine al_7 eX7_rankByValue_25 ?_
      rw [row_kne (by decide), e8]
      refine wp_icmp_ge eX7_rankByValue_26 (fun c26 => ?_) (fun c26 => ?_)
      · simp only [rk_in] at k
        rw [if_neg (by omega)] at k
        refine wp_aload_n eX7_rankByValue_45 rfl ?_
        refine wp_iload eX7_rankByValue_46 rfl ?_
        refine wp_iload_n eX7_rankByValue_48 rfl ?_
        refine as_27 eX7_rankByValue_49 ?_
        rw [up_row]
        exact k _
      · simp only [rk_in] at k
        rw [if_pos (by omega)] at k
        refine wp_aload_n eX7_rankByValue_29 rfl ?_
        refine wp_iload eX7_rankByValue_30 rfl ?_
        refine wp_aload_n eX7_rankByValue_32 rfl ?_
        refine wp_iload eX7_rankByValue_33 rfl ?_
        refine wp_iconst eX7_rankByValue_35 ?_
        refine wp_isub eX7_rankByValue_36 ?_
        refine al_27 eX7_rankByValue_37 ?_
        rw [row_at]
        refine as_27 eX7_rankByValue_38 ?_
        rw [up_row]
        refine inc_4 eX7_rankByValue_39 ?_
        rw [show p + -1 = p - 1 by omega]
        refine wp_goto eX7_rankByValue_42 ?_
        refine ih (p - 1) _ (by omega) (by omega) (fun q a b => ?_) k
        rw [u_ne (by omega)]
        exact hr q a (by omega)
theorem lp_rk7 {G : bc_G} {M : bc_M} {post : bc_R → bc_M → Prop} {z cnt : Int} {v : Int → Int} (hz : 0 ≤ z ∧ z < 13) (e8 : M 7 z = v) (hcn : 0 ≤ cnt ∧ cnt ≤ 4) (hv : ∀ q, 0 ≤ q → q < cnt → 0 ≤ v q ∧ v q ≤ 1000) : ∀ (n : Nat) (x : Int) (r : Int → Int) (y : Option Value) (h1 : x + n = cnt) (h2 : 0 ≤ x) (hr : ∀ q, 0 ≤ q → q < x → 0 ≤ r q ∧ r q < x) (k : post (.inr none) (bc_row M 27 0 (rk_all v n x r))), bc_W G RX7 cX7_rankByValue 5 none 1 0 0 2 [some (vR G 7 z), some (vI cnt), some (vR G 27 0), some (vI x), y] [] (bc_row M 27 0 r) post := by
  intro n
  induction n with
  | zero =>
    intro x r y h1 h2 hr k
    refine wp_iload_n eX7_rankByValue_2 rfl ?_
    refine wp_iload_n eX7_rankByValue_3 rfl ?_
    refine wp_icmp_ge eX7_rankByValue_4 (fun c4 => ?_) (fun c4 => ?_)
    · refine wp_return eX7_rankByValue_56 ?_
      simpa only [rk_all] using k
    · omega
  | succ n ih =>
    intro x r y h1 h2 hr k
    refine wp_iload_n eX7_rankByValue_2 rfl ?_
    refine wp_iload_n eX7_rankByValue_3 rfl ?_
    refine wp_icmp_ge eX7_rankByValue_4 (fun c4 => ?_) (fun c4 => ?_)
    · omega
    · refine wp_iload_n eX7_rankByValue_7 rfl ?_
      refine ist_4 eX7_rankByValue_8 ?_
      refine lp_rkIn7 hz e8 hcn hv (x := x) (by omega) x.toNat x r (by omega) (by omega) hr (fun y2 => ?_)
      simp only [rk_all] at k
      refine inc_3 eX7_rankByValue_50 ?_
      refine wp_goto eX7_rankByValue_53 ?_
      exact ih (x + 1) _ _ (by omega) (by omega) (rk_in_rng h2 x.toNat x r (by omega) (by omega) hr (fun q a b => by omega)) k
theorem ct_rankBy7 {G : bc_G} {M : bc_M} {post : bc_R → bc_M → Prop} {z cnt : Int} {v : Int → Int} (hz : 0 ≤ z ∧ z < 13) (e8 : M 7 z = v) (hcn : 0 ≤ cnt ∧ cnt ≤ 4) (hv : ∀ q, 0 ≤ q → q < cnt → 0 ≤ v q ∧ v q ≤ 1000) (k : post (.inr none) (bc_row M 27 0 (rk_all v cnt.toNat 0 (M 27 0)))) : bc_Call G yX7_rankByValue cX7_rankByValue 5 none 1 0 [vR G 7 z, vI cnt, vR G 27 0] M post := by
  refine bc_enter (L := [some (vR G 7 z), some (vI cnt), some (vR G 27 0), none, none]) (by decide) rfl rfl ?_
  refine wp_iconst eX7_rankByValue_0 ?_
  refine ist_3 eX7_rankByValue_1 ?_
  rw [← row_self (M := M) (k := 27) (j := 0)]
  exact lp_rk7 hz e8 hcn hv cnt.toNat 0 (M 27 0) none (by omega) (by omega) (fun q a b => by omega) k
def rkM (M : bc_M) (z : Int) : bc_M := bc_row (bc_row M 26 0 (rk_all (M 8 z) (M 6 z 3).toNat 0 (M 26 0))) 27 0 (rk_all (M 7 z) (M 6 z 2).toNat 0 (M 27 0))
theorem ct_rank {G : bc_G} {M : bc_M} {post : bc_R → bc_M → Prop} {z : Int} (hz : 0 ≤ z ∧ z < 13) (hs : SM M z) (k : post (.inr none) (rkM M z)) : bc_Call G yX7_rank cX7_rank 2 none 2 0 [vR G 25 0, vR G 6 z] M post := by
  refine bc_enter (L := [some (vR G 25 0), some (vR G 6 z)]) (by decide) rfl rfl ?_
  refine wp_aload_n eX7_rank_0 rfl ?_
  refine gf_X7_32 eX7_rank_1 ?_
  refine wp_aload_n eX7_rank_4 rfl ?_
  refine gf_X7_37 eX7_rank_5 ?_
  refine wp_aload_n eX7_rank_8 rfl ?_
  refine gf_X7_9 eX7_rank_9 ?_
  refine c_X7_39 eX7_rank_12 (ct_rankBy8 hz rfl (by have := hs.1.2.1; omega) (fun q a b => by have := (hs.2 q a b).1; omega) ?_)
  refine wp_aload_n eX7_rank_15 rfl ?_
  refine gf_X7_43 eX7_rank_16 ?_
  refine wp_aload_n eX7_rank_19 rfl ?_
  refine gf_X7_46 eX7_rank_20 ?_
  rw [row_kne (by decide)]
  refine wp_aload_n eX7_rank_23 rfl ?_
  refine gf_X7_15 eX7_rank_24 ?_
  refine c_X7_39 eX7_rank_27 (ct_rankBy7 (v := M 7 z) hz (row_kne (by decide)) (by have := hs.1.1; omega) (fun q a b => by have := hs.1.2.2.2.2.1 q a b; omega) ?_)
  refine wp_return eX7_rank_30 ?_
  rw [row_kne (by decide)]
  exact k
def sz_ones : Nat → Int → (Int → Int) → (Int → Int)
  | 0, _, g => g
  | n + 1, t, g => sz_ones n (t + 1) (bc_u g t 1)
def sz_first (k c : Int) (g : Int → Int) : Int → Int := bc_u (sz_ones k.toNat 0 g) (k - 1) (c - k + 1)
def sz_nx (k : Int) : Nat → Int → Int → (Int → Int) → Bool × (Int → Int)
  | 0, _, _, g => (false, g)
  | n + 1, t, b, g => if k - 1 - t < b then (true, bc_u (sz_ones (k - 1 - (t + 1)).toNat (t + 1) (bc_u g t (g t + 1))) (k - 1) (b - (k - 1 - t))) else sz_nx k n (t - 1) (b + g t) g
def sz_next (k : Int) (g : Int → Int) : Bool × (Int → Int) := sz_nx k (k - 1).toNat (k - 2) (g (k - 1)) g
theorem lp_startSizes {G : bc_G} {M : bc_M} {post : bc_R → bc_M → Prop} {kk c : Int} (hk : 1 ≤ kk ∧ kk ≤ 4) : ∀ (n : Nat) (t : Int) (g : Int → Int) (h1 : t + n = kk) (h2 : 0 ≤ t) (k : post (.inr none) (bc_row M 29 0 (bc_u (sz_ones n t g) (kk - 1) (c - kk + 1)))), bc_W G RX7 cX7_startSizes 4 none 1 0 0 2 [some (vR G 25 0), some (vI kk), some (vI c), some (vI t)] [] (bc_row M 29 0 g) post := by
  intro n
  induction n with
  | zero =>
    intro t g h1 h2 k
    refine wp_iload_n eX7_startSizes_2 rfl ?_
    refine wp_iload_n eX7_startSizes_3 rfl ?_
    refine wp_icmp_ge eX7_startSizes_4 (fun c4 => ?_) (fun c4 => ?_)
    · simp only [sz_ones] at k
      refine wp_aload_n eX7_startSizes_20 rfl ?_
      refine gf_X7_29 eX7_startSizes_21 ?_
      refine wp_iload_n eX7_startSizes_24 rfl ?_
      refine wp_iconst eX7_startSizes_25 ?_
      refine wp_isub eX7_startSizes_26 ?_
      refine wp_iload_n eX7_startSizes_27 rfl ?_
      refine wp_iload_n eX7_startSizes_28 rfl ?_
      refine wp_isub eX7_startSizes_29 ?_
      refine wp_iconst eX7_startSizes_30 ?_
      refine wp_iadd eX7_startSizes_31 ?_
      refine as_29 eX7_startSizes_32 ?_
      rw [up_row]
      refine wp_return eX7_startSizes_33 ?_
      exact k
    · omega
  | succ n ih =>
    intro t g h1 h2 k
    refine wp_iload_n eX7_startSizes_2 rfl ?_
    refine wp_iload_n eX7_startSizes_3 rfl ?_
    refine wp_icmp_ge eX7_startSizes_4 (fun c4 => ?_) (fun c4 => ?_)
    · omega
    · simp only [sz_ones] at k
      refine wp_aload_n eX7_startSizes_7 rfl ?_
      refine gf_X7_29 eX7_startSizes_8 ?_
      refine wp_iload_n eX7_startSizes_11 rfl ?_
      refine wp_iconst eX7_startSizes_12 ?_
      refine as_29 eX7_startSizes_13 ?_
      rw [up_row]
      refine inc_3 eX7_startSizes_14 ?_
      refine wp_goto eX7_startSizes_17 ?_
      exact ih (t + 1) _ (by omega) (by omega) k
theorem ct_startSizes {G : bc_G} {M : bc_M} {post : bc_R → bc_M → Prop} {kk c : Int} (hk : 1 ≤ kk ∧ kk ≤ 4) (k : post (.inr none) (bc_row M 29 0 (sz_first kk c (M 29 0)))) : bc_Call G yX7_startSizes cX7_startSizes 4 none 1 0 [vR G 25 0, vI kk, vI c] M post := by
  refine bc_enter (L := [some (vR G 25 0), some (vI kk), some (vI c), none]) (by decide) rfl rfl ?_
  refine wp_iconst eX7_startSizes_0 ?_
  refine ist_3 eX7_startSizes_1 ?_
  rw [← row_self (M := M) (k := 29) (j := 0)]
  exact lp_startSizes hk kk.toNat 0 _ (by omega) (by omega) k
theorem lp_nsIn {G : bc_G} {M : bc_M} {post : bc_R → bc_M → Prop} {kk : Int} (hk : 1 ≤ kk ∧ kk ≤ 4) {b t w : Int} : ∀ (n : Nat) (x : Int) (g : Int → Int) (h1 : x + n = kk - 1) (h2 : 0 ≤ x) (k : bc_W G RX7 cX7_nextSizes 6 (some .boolean) 1 0 0 67 [some (vR G 25 0), some (vI kk), some (vI b), some (vI t), some (vI w), some (vI (kk - 1))] [] (bc_row M 29 0 (sz_ones n x g)) post), bc_W G RX7 cX7_nextSizes 6 (some .boolean) 1 0 0 45 [some (vR G 25 0), some (vI kk), some (vI b), some (vI t), some (vI w), some (vI x)] [] (bc_row M 29 0 g) post := by
  intro n
  induction n with
  | zero =>
    intro x g h1 h2 k
    refine wp_iload eX7_nextSizes_45 rfl ?_
    refine wp_iload_n eX7_nextSizes_47 rfl ?_
    refine wp_iconst eX7_nextSizes_48 ?_
    refine wp_isub eX7_nextSizes_49 ?_
    refine wp_icmp_ge eX7_nextSizes_50 (fun c50 => ?_) (fun c50 => ?_)
    · simp only [sz_ones] at k
      rw [show x = kk - 1 by omega]
      exact k
    · omega
  | succ n ih =>
    intro x g h1 h2 k
    refine wp_iload eX7_nextSizes_45 rfl ?_
    refine wp_iload_n eX7_nextSizes_47 rfl ?_
    refine wp_iconst eX7_nextSizes_48 ?_
    refine wp_isub eX7_nextSizes_49 ?_
    refine wp_icmp_ge eX7_nextSizes_50 (fun c50 => ?_) (fun c50 => ?_)
    · omega
    · simp only [sz_ones] at k
      refine wp_aload_n eX7_nextSizes_53 rfl ?_
      refine gf_X7_29 eX7_nextSizes_54 ?_
      refine wp_iload eX7_nextSizes_57 rfl ?_
      refine wp_iconst eX7_nextSizes_59 ?_
      refine as_29 eX7_nextSizes_60 ?_
      rw [up_row]
      refine inc_5 eX7_nextSizes_61 ?_
      refine wp_goto eX7_nextSizes_64 ?_
      exact ih (x + 1) _ (by omega) (by omega) k
theorem lp_ns {G : bc_G} {M : bc_M} {post : bc_R → bc_M → Prop} {kk : Int} (hk : 1 ≤ kk ∧ kk ≤ 4) : ∀ (n : Nat) (b t : Int) (g : Int → Int) (y4 y5 : Option Value) (h1 : t + 1 = n) (h2 : t ≤ kk - 2) (hb : 0 ≤ b ∧ b ≤ 1000 * (5 - n)) (hg : ∀ q, 0 ≤ q → q < kk → 0 ≤ g q ∧ g q ≤ 1000) (k : post (.inr (some (vI (if (sz_nx kk n t b g).1 then 1 else 0)))) (bc_row M 29 0 (sz_nx kk n t b g).2)), bc_W G RX7 cX7_nextSizes 6 (some .boolean) 1 0 0 13 [some (vR G 25 0), some (vI kk), some (vI b), some (vI t), y4, y5] [] (bc_row M 29 0 g) post := by
  intro n
  induction n with
  | zero =>
    intro b t g y4 y5 h1 h2 hb hg k
    refine wp_iload_n eX7_nextSizes_13 rfl ?_
    refine wp_if_lt eX7_nextSizes_14 (fun c14 => ?_) (fun c14 => ?_)
    · simp only [sz_nx] at k
      refine wp_iconst eX7_nextSizes_96 ?_
      refine wp_zreturn eX7_nextSizes_97 (by decide) ?_
      exact k
    · omega
  | succ n ih =>
    intro b t g y4 y5 h1 h2 hb hg k
    refine wp_iload_n eX7_nextSizes_13 rfl ?_
    refine wp_if_lt eX7_nextSizes_14 (fun c14 => ?_) (fun c14 => ?_)
    · omega
    · refine wp_iload_n eX7_nextSizes_17 rfl ?_
      refine wp_iconst eX7_nextSizes_18 ?_
      refine wp_isub eX7_nextSizes_19 ?_
      refine wp_iload_n eX7_nextSizes_20 rfl ?_
      refine wp_isub eX7_nextSizes_21 ?_
      refine ist_4 eX7_nextSizes_22 ?_
      refine wp_iload_n eX7_nextSizes_24 rfl ?_
      refine wp_iload eX7_nextSizes_25 rfl ?_
      refine wp_icmp_le eX7_nextSizes_27 (fun c27 => ?_) (fun c27 => ?_)
      · have hk9 : sz_nx kk (n + 1) t b g = sz_nx kk n (t - 1) (b + g t) g := by
          simp only [sz_nx]
          rw [if_neg (by omega)]
        rw [hk9] at k
        refine wp_iload_n eX7_nextSizes_81 rfl ?_
        refine wp_aload_n eX7_nextSizes_82 rfl ?_
        refine gf_X7_29 eX7_nextSizes_83 ?_
        refine wp_iload_n eX7_nextSizes_86 rfl ?_
        refine al_29 eX7_nextSizes_87 ?_
        rw [row_at]
        have hg1 := hg t (by omega) (by omega)
        refine wp_iadd eX7_nextSizes_88 ?_
        refine ist_2 eX7_nextSizes_89 ?_
        refine inc_3 eX7_nextSizes_90 ?_
        rw [show t + -1 = t - 1 by omega]
        refine wp_goto eX7_nextSizes_93 ?_
        exact ih (b + g t) (t - 1) g _ _ (by omega) (by omega) (by omega) hg k
      · have hk9 : sz_nx kk (n + 1) t b g = (true, bc_u (sz_ones (kk - 1 - (t + 1)).toNat (t + 1) (bc_u g t (g t + 1))) (kk - 1) (b - (kk - 1 - t))) := by
          simp only [sz_nx]
          rw [if_pos (by omega)]
        rw [hk9] at k
        refine wp_aload_n eX7_nextSizes_30 rfl ?_
        refine gf_X7_29 eX7_nextSizes_31 ?_
        refine wp_iload_n eX7_nextSizes_34 rfl ?_
        refine wp_dup2 eX7_nextSizes_35 ?_
        refine al_29 eX7_nextSizes_36 ?_
        rw [row_at]
        refine wp_iconst eX7_nextSizes_37 ?_
        refine wp_iadd eX7_nextSizes_38 ?_
        refine as_29 eX7_nextSizes_39 ?_
        rw [up_row]
        refine wp_iload_n eX7_nextSizes_40 rfl ?_
        refine wp_iconst eX7_nextSizes_41 ?_
        refine wp_iadd eX7_nextSizes_42 ?_
        refine ist_5 eX7_nextSizes_43 ?_
        refine lp_nsIn hk (kk - 1 - (t + 1)).toNat (t + 1) _ (by omega) (by omega) ?_
        refine wp_aload_n eX7_nextSizes_67 rfl ?_
        refine gf_X7_29 eX7_nextSizes_68 ?_
        refine wp_iload_n eX7_nextSizes_71 rfl ?_
        refine wp_iconst eX7_nextSizes_72 ?_
        refine wp_isub eX7_nextSizes_73 ?_
        refine wp_iload_n eX7_nextSizes_74 rfl ?_
        refine wp_iload eX7_nextSizes_75 rfl ?_
        refine wp_isub eX7_nextSizes_77 ?_
        refine as_29 eX7_nextSizes_78 ?_
        rw [up_row]
        refine wp_iconst eX7_nextSizes_79 ?_
        refine wp_zreturn eX7_nextSizes_80 (by decide) ?_
        exact k
theorem ct_nextSizes {G : bc_G} {M : bc_M} {post : bc_R → bc_M → Prop} {kk : Int} (hk : 1 ≤ kk ∧ kk ≤ 4) (hg : ∀ q, 0 ≤ q → q < kk → 0 ≤ M 29 0 q ∧ M 29 0 q ≤ 1000) (k : post (.inr (some (vI (if (sz_next kk (M 29 0)).1 then 1 else 0)))) (bc_row M 29 0 (sz_next kk (M 29 0)).2)) : bc_Call G yX7_nextSizes cX7_nextSizes 6 (some .boolean) 1 0 [vR G 25 0, vI kk] M post := by
  refine bc_enter (L := [some (vR G 25 0), some (vI kk), none, none, none, none]) (by decide) rfl rfl ?_
  refine wp_aload_n eX7_nextSizes_0 rfl ?_
  refine gf_X7_29 eX7_nextSizes_1 ?_
  refine wp_iload_n eX7_nextSizes_4 rfl ?_
  refine wp_iconst eX7_nextSizes_5 ?_
  refine wp_isub eX7_nextSizes_6 ?_
  refine al_29 eX7_nextSizes_7 ?_
  refine ist_2 eX7_nextSizes_8 ?_
  refine wp_iload_n eX7_nextSizes_9 rfl ?_
  refine wp_iconst eX7_nextSizes_10 ?_
  refine wp_isub eX7_nextSizes_11 ?_
  refine ist_3 eX7_nextSizes_12 ?_
  have hg1 := hg (kk - 1) (by omega) (by omega)
  have k2 : post (.inr (some (vI (if (sz_nx kk (kk - 1).toNat (kk - 2) (M 29 0 (kk - 1)) (M 29 0)).1 then 1 else 0)))) (bc_row M 29 0 (sz_nx kk (kk - 1).toNat (kk - 2) (M 29 0 (kk - 1)) (M 29 0)).2) := k
  generalize hge : M 29 0 = g at k2 hg hg1 ⊢
  rw [← row_self (M := M) (k := 29) (j := 0), hge]
  exact lp_ns hk (kk - 1).toNat _ (kk - 2) g none none (by omega) (by omega) (by omega) hg k2
