theorem sq_wg_rng {f : Int → Int} : ∀ (n : Nat) (a s p B : Int), (-B ≤ s ∧ s ≤ B) → (-1000 ≤ p ∧ p ≤ 1000) → (∀ q, a ≤ q → q < a + n → 0 ≤ f q ∧ f q ≤ 1000) → -(B + n * 2001001) ≤ sq_wg f n a s p ∧ sq_wg f n a s p ≤ B + n * 2001001
  | 0, _, _, _, _, hs, _, _ => by simp only [sq_wg]; omega
  | n + 1, a, s, p, B, hs, hp, h => by
    have h1 := h a (by omega) (by omega)
    have hbm := bm_abs (a := f a - p) (b := f a - p + 1) (A := 2000) (B := 2001) (by omega) (by omega)
    have := sq_wg_rng (f := f) n (a + 1) (s + (f a - p) * (f a - p + 1) / 2) (f a) (B + 2001001) (by omega) (by omega) (fun q h1 h2 => h q (by omega) (by omega))
    simp only [sq_wg]
    omega
theorem wi_in_rng2 {f : Int → Int} {lim : Int} : ∀ (n : Nat) (p t B : Int), (-B ≤ t ∧ t ≤ B) → (∀ q, p ≤ q → q < p + n → 0 ≤ f q ∧ f q ≤ 1000) → -(B + n * 1000) ≤ (wi_in f lim n p t).2 ∧ (wi_in f lim n p t).2 ≤ B + n * 1000
  | 0, p, t, B, ht, _ => by simp only [wi_in]; omega
  | n + 1, p, t, B, ht, h => by
    have h1 := h p (by omega) (by omega)
    simp only [wi_in]
    split
    · have := wi_in_rng2 (f := f) (lim := lim) n (p + 1) (t + f p) (B + 1000) (by omega) (fun q h1 h2 => h q (by omega) (by omega))
      omega
    · simp only; omega
theorem wi_out_rng {f st : Int → Int} {sl cyc : Int} (hsl : 1 ≤ sl ∧ sl ≤ 6) (hc : 0 ≤ cyc ∧ cyc ≤ 1000) (hf : ∀ q, 0 ≤ q → q < sl → 0 ≤ f q ∧ f q ≤ 1000) : ∀ (n : Nat) (k s p v B : Int), (-B ≤ s ∧ s ≤ B) → (0 ≤ p ∧ p ≤ sl) → (-1000 ≤ v ∧ v ≤ 1000) → (∀ q, k ≤ q → q < k + n → 0 ≤ st q ∧ st q ≤ 1000) →
    (-(B + n * 20000000) ≤ (wi_out f st sl cyc n k s p v).1 ∧ (wi_out f st sl cyc n k s p v).1 ≤ B + n * 20000000) ∧ 0 ≤ (wi_out f st sl cyc n k s p v).2 ∧ (wi_out f st sl cyc n k s p v).2 ≤ sl
  | 0, k, s, p, v, B, hs, hp, _, _ => by simp only [wi_out]; omega
  | n + 1, k, s, p, v, B, hs, hp, hv, h => by
    have h1 := h k (by omega) (by omega)
    simp only [wi_out]
    have i1 := wi_in_rng (f := f) (lim := st k) (sl - p).toNat p 0
    have i2 := wi_in_rng2 (f := f) (lim := st k) (sl - p).toNat p 0 0 (by omega) (fun q h1 h2 => hf q (by omega) (by omega))
    generalize wi_in f (st k) (sl - p).toNat p 0 = r at i1 i2 ⊢
    obtain ⟨p2, t2⟩ := r
    simp only at i1 i2 ⊢
    have htg : 0 ≤ wi_tgt f sl cyc p2 ∧ wi_tgt f sl cyc p2 ≤ 2000 := by
      unfold wi_tgt
      split
      · have := hf p2 (by omega) (by omega); omega
      · have := hf 0 (by omega) (by omega); omega
    generalize wi_tgt f sl cyc p2 = tg at htg ⊢
    have b1 := bm_abs (a := st k - v) (b := tg - st k + 1) (A := 2000) (B := 3001) (by omega) (by omega)
    have b2 := bm_abs (a := st k - v) (b := st k - v - 1) (A := 2000) (B := 2001) (by omega) (by omega)
    have b3 := bm_abs (a := p2 - p) (b := tg) (A := 6) (B := 2000) (by omega) (by omega)
    have := wi_out_rng hsl hc hf n (k + 1) (s + ((st k - v) * (tg - st k + 1) + (st k - v) * (st k - v - 1) / 2) - ((p2 - p) * tg - t2)) p2 (st k) (B + 20000000) (by omega) (by omega) (by omega) (fun q h1 h2 => h q (by omega) (by omega))
    omega
theorem wi_tail_rng {f : Int → Int} {cyc : Int} (hc : 0 ≤ cyc ∧ cyc ≤ 1000) (h0 : 0 ≤ f 0 ∧ f 0 ≤ 1000) : ∀ (n : Nat) (a s B : Int), (-B ≤ s ∧ s ≤ B) → (∀ q, a ≤ q → q < a + n → 0 ≤ f q ∧ f q ≤ 1000) → -(B + n * 3000) ≤ wi_tail f cyc n a s ∧ wi_tail f cyc n a s ≤ B + n * 3000
  | 0, _, _, _, hs, _ => by simp only [wi_tail]; omega
  | n + 1, a, s, B, hs, h => by
    have h1 := h a (by omega) (by omega)
    have := wi_tail_rng (f := f) hc h0 n (a + 1) (s - (f 0 + cyc - f a)) (B + 3000) (by omega) (fun q h1 h2 => h q (by omega) (by omega))
    simp only [wi_tail]
    omega
theorem pg_ws_rng {M : bc_M} {j ni i : Int} (h : PV M j ni) (hi : 0 ≤ i ∧ i < ni) : -200000000 ≤ pg_ws M j i ∧ pg_ws M j i ≤ 200000000 := by
  have hl := pg_last_rng h hi
  obtain ⟨h1, h2, h3, h4, h5, h6⟩ := h
  have h7 := h6 i hi.1 hi.2
  unfold pg_ws
  split
  · rename_i hg
    have ho := wi_out_rng (f := M 21 (16 * j + i)) (st := M 18 j) (sl := M 19 j i) (cyc := M 17 j 0) h7.1 (by omega) (fun q a b => by have := h7.2 q a b; omega) (M 17 j 2).toNat 0 0 0 (M 18 j (M 17 j 2 - 1) - M 17 j 0) 0 (by omega) (by omega) (by have := h4 (M 17 j 2 - 1) (by omega) (by omega); omega) (fun q a b => by have := h4 q a (by omega); omega)
    have h0 := h7.2 0 (by omega) (by omega)
    unfold pg_wsi
    have e : wi_out (M 21 (16 * j + i)) (M 18 j) (M 19 j i) (M 17 j 0) (M 17 j 2).toNat 0 0 0 (M 18 j (M 17 j 2 - 1) - M 17 j 0) = pg_wix M j i := rfl
    rw [e] at ho
    have ht := wi_tail_rng (f := M 21 (16 * j + i)) (cyc := M 17 j 0) (by omega) (by omega) (M 19 j i - (pg_wix M j i).2).toNat (pg_wix M j i).2 (pg_wix M j i).1 (0 + 8 * 20000000) (by omega) (fun q a b => by have := h7.2 q (by omega) (by omega); omega)
    omega
  · unfold pg_wsg
    have := sq_wg_rng (f := M 21 (16 * j + i)) (M 19 j i).toNat 0 0 (pg_last M j i) 0 (by omega) (by omega) (fun q a b => by have := h7.2 q a (by omega); omega)
    omega
theorem pg_ls_rng {M : bc_M} {j ni i : Int} (h : PV M j ni) (hi : 0 ≤ i ∧ i < ni) : -200000000 ≤ pg_ls M j i ∧ pg_ls M j i ≤ 200000000 := by
  have hw := pg_ws_rng h hi
  obtain ⟨h1, h2, h3, h4, h5, h6⟩ := h
  have h7 := h6 i hi.1 hi.2
  unfold pg_ls
  split
  · exact hw
  · have b1 := bm_abs (a := M 17 j 2) (b := M 17 j 3 + 1) (A := 8) (B := 5) (by omega) (by omega)
    have b2 := bm_abs (a := M 17 j 0 - M 19 j i - M 17 j 2) (b := M 17 j 3 + 2) (A := 2000) (B := 6) (by omega) (by omega)
    omega
/-- the weight: n items from i on, added to w; z: the settings, f: the factor -/
def pg_weigh (M : bc_M) (j z f : Int) : Nat → Int → Int → Int
  | 0, _, w => w
  | n + 1, i, w => pg_weigh M j z f n (i + 1) (w + M 8 z i * (pg_ws M j i + f * pg_ls M j i))
theorem lp_weigh {G : bc_G} {M : bc_M} {post : bc_R → bc_M → Prop} {j ni z f : Int} (hj : 0 ≤ j ∧ j < 2) (hp : PV M j ni) (hz : 0 ≤ z ∧ z < 13) (hni : M 6 z 3 = ni) (hb : ∀ i, 0 ≤ i → i < ni → 0 ≤ M 8 z i ∧ M 8 z i ≤ 99) (hf : 0 ≤ f ∧ f ≤ 99) (hc9 : M 17 j 0 < 1000) : ∀ (n : Nat) (i w : Int) (h1 : i + n = ni) (h2 : 0 ≤ i) (x6 x7 : Option Value) (k : post (.inr (some (vJ (pg_weigh M j z f n i w)))) M), bc_W G RX4 cX4_weigh 9 (some .long) 6 0 0 5 [some (vR G 17 j), some (vR G 6 z), some (vI f), some (vJ w), none, some (vI i), x6, x7, none] [] M post := by
  intro n
  induction n with
  | zero =>
    intro i w h1 h2 x6 x7 k
    have hn16 := hp.2.2.2.2.1
    refine wp_iload eX4_weigh_5 rfl ?_
    refine wp_aload_n eX4_weigh_7 rfl ?_
    refine gf_X4_74 eX4_weigh_8 ?_
    refine wp_icmp_ge eX4_weigh_11 (fun c11 => ?_) (fun c11 => ?_)
    · refine wp_lload_n eX4_weigh_60 rfl ?_
      refine wp_lreturn eX4_weigh_61 ?_
      exact k
    · omega
  | succ n ih =>
    intro i w h1 h2 x6 x7 k
    have hn16 := hp.2.2.2.2.1
    refine wp_iload eX4_weigh_5 rfl ?_
    refine wp_aload_n eX4_weigh_7 rfl ?_
    refine gf_X4_74 eX4_weigh_8 ?_
    refine wp_icmp_ge eX4_weigh_11 (fun c11 => ?_) (fun c11 => ?_)
    · omega
    · simp only [pg_weigh] at k
      refine wp_aload_n eX4_weigh_14 rfl ?_
      refine wp_iload eX4_weigh_15 rfl ?_
      have hi : 0 ≤ i ∧ i < ni := by omega
      have hws := pg_ws_rng hp hi
      have hls := pg_ls_rng hp hi
      have hpop := hb i hi.1 hi.2
      refine c_X4_126 eX4_weigh_17 (ct_waitSum hj hp hi hc9 ?_)
      refine ist_6 eX4_weigh_20 ?_
      refine wp_iload eX4_weigh_22 rfl ?_
      refine wp_i2l eX4_weigh_24 ?_
      refine wp_iload_n eX4_weigh_25 rfl ?_
      refine wp_i2l eX4_weigh_26 ?_
      refine wp_aload_n eX4_weigh_27 rfl ?_
      refine wp_iload eX4_weigh_28 rfl ?_
      refine wp_iload eX4_weigh_30 rfl ?_
      refine c_X4_129 eX4_weigh_32 (ct_listeningSum hj hp hi hc9 ?_)
      refine wp_i2l eX4_weigh_35 ?_
      refine wp_lmul eX4_weigh_36 ?_
      refine wp_ladd eX4_weigh_37 ?_
      refine lst_7 eX4_weigh_38 ?_
      refine wp_lload_n eX4_weigh_40 rfl ?_
      refine wp_aload_n eX4_weigh_41 rfl ?_
      refine gf_X4_132 eX4_weigh_42 ?_
      refine wp_iload eX4_weigh_45 rfl ?_
      refine al_8 eX4_weigh_47 ?_
      refine wp_i2l eX4_weigh_48 ?_
      refine wp_lload eX4_weigh_49 rfl ?_
      refine wp_lmul eX4_weigh_51 ?_
      refine wp_ladd eX4_weigh_52 ?_
      refine lst_3 eX4_weigh_53 ?_
      refine inc_5 eX4_weigh_54 ?_
      refine wp_goto eX4_weigh_57 ?_
      refine ih (i + 1) _ (by omega) (by omega) _ _ k
theorem ct_weigh {G : bc_G} {M : bc_M} {post : bc_R → bc_M → Prop} {j ni z f : Int} (hj : 0 ≤ j ∧ j < 2) (hp : PV M j ni) (hz : 0 ≤ z ∧ z < 13) (hni : M 6 z 3 = ni) (hb : ∀ i, 0 ≤ i → i < ni → 0 ≤ M 8 z i ∧ M 8 z i ≤ 99) (hf : 0 ≤ f ∧ f ≤ 99) (hc9 : M 17 j 0 < 1000) (k : post (.inr (some (vJ (pg_weigh M j z f ni.toNat 0 0)))) M) : bc_Call G yX4_weigh cX4_weigh 9 (some .long) 6 0 [vR G 17 j, vR G 6 z, vI f] M post := by
  refine bc_enter (L := [some (vR G 17 j), some (vR G 6 z), some (vI f), none, none, none, none, none, none]) (by decide) rfl rfl ?_
  refine wp_lconst0 eX4_weigh_0 ?_
  refine lst_3 eX4_weigh_1 ?_
  refine wp_iconst eX4_weigh_2 ?_
  refine ist_5 eX4_weigh_3 ?_
  exact lp_weigh hj hp hz hni hb hf hc9 ni.toNat 0 0 (by have := hp.2.2.2.2.1; omega) (by omega) _ _ k
