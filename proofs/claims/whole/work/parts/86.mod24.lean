theorem dvF_ok {W C : (Int → Int) → Int} {it dd g : Int → Int} {kk ni : Int} {s : Bool × Int × Int × (Int → Int) × (Int → Int)} (hk : 0 ≤ kk) (hg : SZ kk ni g) (hs : s.1 = true → SZ kk ni s.2.2.2.1) : (dvF W C it dd kk s g).1 = true ∧ SZ kk ni (dvF W C it dd kk s g).2.2.2.1 := by
  have hc : SZ kk ni (cpF s.2.2.2.1 g 0 kk) := by
    have e : ∀ q, 0 ≤ q → q < kk → cpF s.2.2.2.1 g 0 kk q = g q := fun q a b => by
      unfold cpF
      rw [if_pos (by omega), show q - 0 = q by omega]
    refine ⟨fun q a b => by rw [e q a b]; exact hg.1 q a b, ?_⟩
    rw [spsum_c (h := g) kk.toNat (fun q a b => e q (by omega) (by omega))]
    exact hg.2
  unfold dvF
  by_cases h : s.1 = false ∨ W (ma_out it dd g kk.toNat 0 0 s.2.2.2.2) * s.2.2.1 < s.2.1 * C (ma_out it dd g kk.toNat 0 0 s.2.2.2.2)
  · rw [if_pos h]; exact ⟨rfl, hc⟩
  · rw [if_neg h]
    have h1 : s.1 = true := by
      cases e : s.1
      · exact absurd (Or.inl e) h
      · rfl
    exact ⟨h1, hs h1⟩
theorem dvR_ok {W C : (Int → Int) → Int} {it dd : Int → Int} {kk ni : Int} : ∀ (m : Nat) (t L : Int) (g : Int → Int) (s : Bool × Int × Int × (Int → Int) × (Int → Int)), t + m + 1 = kk → 0 ≤ t → DG kk ni t L g → (s.1 = true → SZ kk ni s.2.2.2.1) → (dvR (dvF W C it dd kk) m t L (g, s)).2.1 = true ∧ SZ kk ni (dvR (dvF W C it dd kk) m t L (g, s)).2.2.2.2.1
  | 0, t, L, g, s, hm, ht, hG, hs => dvF_ok (by omega) (hG.sz ht (by omega)) hs
  | m + 1, t, L, g, s, hm, ht, hG, hs => by
    have key : ∀ (c : Nat) (x : Int) (g' : Int → Int) (s' : Bool × Int × Int × (Int → Int) × (Int → Int)), x + c = L - m → 1 ≤ x → (0 < c ∨ s'.1 = true) → (∀ q, q < t → g' q = g q) → (s'.1 = true → SZ kk ni s'.2.2.2.1) → (dvL (fun L' => dvR (dvF W C it dd kk) m (t + 1) L') t L c x (g', s')).2.1 = true ∧ SZ kk ni (dvL (fun L' => dvR (dvF W C it dd kk) m (t + 1) L') t L c x (g', s')).2.2.2.2.1 := by
      intro c
      induction c with
      | zero =>
        intro x g' s' h1 h2 h3 h4 h5
        simp only [dvL]
        have h6 := h3.resolve_left (by omega)
        exact ⟨h6, h5 h6⟩
      | succ c ih =>
        intro x g' s' h1 h2 h3 h4 h5
        simp only [dvL]
        have h6 := dvR_ok (W := W) (C := C) (it := it) (dd := dd) m (t + 1) (L - x) (bc_u g' t x) s' (by omega) (by omega) ((hG.c ht h4).st ht (x := x) h2 (by omega)) h5
        refine ih (x + 1) (dvR (dvF W C it dd kk) m (t + 1) (L - x) (bc_u g' t x, s')).1 (dvR (dvF W C it dd kk) m (t + 1) (L - x) (bc_u g' t x, s')).2 (by omega) (by omega) (Or.inr h6.1) (fun q hq => ?_) (fun _ => h6.2)
        rw [dvR_lt _ _ _ _ q (by omega)]
        show bc_u g' t x q = g q
        rw [u_ne (by omega)]
        exact h4 q hq
    simp only [dvR]
    have := hG.2.2
    exact key (L - (m + 1)).toNat 1 g s (by omega) (by omega) (Or.inl (by omega)) (fun q hq => rfl) hs
theorem lp_fdOrd {G : bc_G} {M : bc_M} {post : bc_R → bc_M → Prop} {dk fr pop bnd : Int → Int} {nd ni sg ln : Int} (hs : MS M dk fr pop bnd nd ni sg ln) {kk : Int} {g : Int → Int} : ∀ (n : Nat) (v : Int) (h1 : v + n = ni) (h2 : 0 ≤ v) (k : bc_W G RX9 cX9_findDivision 3 none 15 0 0 27 [some (vR G 33 0), some (vI kk), some (vI ni)] [] (bc_row M 45 0 (cpF g (fun q => rf pop ni q ni.toNat 0) 0 ni)) post), bc_W G RX9 cX9_findDivision 3 none 15 0 0 2 [some (vR G 33 0), some (vI kk), some (vI v)] [] (bc_row M 45 0 (cpF g (fun q => rf pop ni q ni.toNat 0) 0 v)) post := by
  intro n
  induction n with
  | zero =>
    intro v h1 h2 k
    have hni := hs.1.2.1
    refine wp_iload_n eX9_findDivision_2 rfl ?_
    refine wp_aload_n eX9_findDivision_3 rfl ?_
    refine gf_X9_79 eX9_findDivision_4 ?_
    rw [row_kne (by decide), hs.2.1.2]
    refine wp_icmp_ge eX9_findDivision_7 (fun c7 => ?_) (fun c7 => ?_)
    · have hv : v = ni := by omega
      subst hv
      exact k
    · omega
  | succ n ih =>
    intro v h1 h2 k
    have hni := hs.1.2.1
    refine wp_iload_n eX9_findDivision_2 rfl ?_
    refine wp_aload_n eX9_findDivision_3 rfl ?_
    refine gf_X9_79 eX9_findDivision_4 ?_
    rw [row_kne (by decide), hs.2.1.2]
    refine wp_icmp_ge eX9_findDivision_7 (fun c7 => ?_) (fun c7 => ?_)
    · omega
    · refine wp_aload_n eX9_findDivision_10 rfl ?_
      refine gf_X9_47 eX9_findDivision_11 ?_
      refine wp_iload_n eX9_findDivision_14 rfl ?_
      refine wp_aload_n eX9_findDivision_15 rfl ?_
      refine wp_iload_n eX9_findDivision_16 rfl ?_
      refine c_X9_338 eX9_findDivision_17 (ct_rankedItem (row_ms hs (by decide) (by decide)) (by omega) ?_)
      refine as_45 eX9_findDivision_20 ?_
      refine inc_2 eX9_findDivision_21 ?_
      refine wp_goto eX9_findDivision_24 ?_
      rw [up_row]
      have e9 := cpF_st (g := g) (h := fun q => rf pop ni q ni.toNat 0) (b := 0) (n := v) h2
      rw [Int.zero_add] at e9
      rw [e9]
      exact ih (v + 1) (by omega) (by omega) k
/-- the best division that the model finds -/
def fdR (W C : (Int → Int) → Int) (it dd dk : Int → Int) (kk ni : Int) (g : Int → Int) (bw bl : Int) (bz : Int → Int) : Bool × Int × Int × (Int → Int) × (Int → Int) := (dvR (dvF W C it dd kk) (kk - 1).toNat 0 ni (g, (false, bw, bl, bz, dk))).2
def FD (M M' : bc_M) (it : Int → Int) (s : Bool × Int × Int × (Int → Int) × (Int → Int)) : Prop := Fr mqP M M' ∧ (∀ f, f < 25 → M' 33 0 f = M 33 0 f) ∧ M' 33 0 34 = s.2.1 ∧ M' 47 0 = s.2.2.2.1 ∧ M' 45 0 = it
set_option maxHeartbeats 2000000 in
theorem ct_findDivision {G : bc_G} {M : bc_M} {post : bc_R → bc_M → Prop} {dk fr pop bnd : Int → Int} {nd ni sg ln : Int} (hs : MS M dk fr pop bnd nd ni sg ln) {kk : Int} (hkk : 1 ≤ kk ∧ kk ≤ nd) (hki : kk ≤ ni) (k : ∀ M' : bc_M, FD M M' (cpF (M 45 0) (fun q => rf pop ni q ni.toNat 0) 0 ni) (fdR (fun dk => sp_WS dk fr pop nd ni sg ln 0) (fun dk => sp_S dk fr nd ni + sg * ln) (cpF (M 45 0) (fun q => rf pop ni q ni.toNat 0) 0 ni) (fun t => rf fr nd t nd.toNat 0) dk kk ni (M 46 0) (M 33 0 34) (M 33 0 35) (M 47 0)) → (fdR (fun dk => sp_WS dk fr pop nd ni sg ln 0) (fun dk => sp_S dk fr nd ni + sg * ln) (cpF (M 45 0) (fun q => rf pop ni q ni.toNat 0) 0 ni) (fun t => rf fr nd t nd.toNat 0) dk kk ni (M 46 0) (M 33 0 34) (M 33 0 35) (M 47 0)).1 = true ∧ SZ kk ni (fdR (fun dk => sp_WS dk fr pop nd ni sg ln 0) (fun dk => sp_S dk fr nd ni + sg * ln) (cpF (M 45 0) (fun q => rf pop ni q ni.toNat 0) 0 ni) (fun t => rf fr nd t nd.toNat 0) dk kk ni (M 46 0) (M 33 0 34) (M 33 0 35) (M 47 0)).2.2.2.1 → post (.inr none) M') : bc_Call G yX9_findDivision cX9_findDivision 3 none 15 0 [vR G 33 0, vI kk] M post := by
  have hni := hs.1.2.1
  have hnd := hs.1.1
  refine bc_enter (L := [some (vR G 33 0), some (vI kk), none]) (by decide) rfl rfl ?_
  refine wp_iconst eX9_findDivision_0 ?_
  refine ist_2 eX9_findDivision_1 ?_
  have eW : bc_row M 45 0 (cpF (M 45 0) (fun q => rf pop ni q ni.toNat 0) 0 0) = M := by rw [cpF0, row_self]
  rw [← eW]
  refine lp_fdOrd hs (g := M 45 0) ni.toNat 0 (by omega) (by omega) ?_
  refine wp_aload_n eX9_findDivision_27 rfl ?_
  refine wp_iconst eX9_findDivision_28 ?_
  refine pf_X9_325 eX9_findDivision_29 (by decide) ?_
  refine wp_aload_n eX9_findDivision_32 rfl ?_
  refine wp_iconst eX9_findDivision_33 ?_
  refine c_X9_341 eX9_findDivision_34 (ct_putAside (by omega) ?_)
  rw [up_kne (k' := 40) (by decide), row_kne (k' := 40) (by decide), up_kne (k' := 34) (by decide), row_kne (k' := 34) (by decide)]
  refine wp_aload_n eX9_findDivision_37 rfl ?_
  refine wp_iconst eX9_findDivision_38 ?_
  refine wp_iload_n eX9_findDivision_39 rfl ?_
  refine wp_aload_n eX9_findDivision_40 rfl ?_
  refine gf_X9_79 eX9_findDivision_41 ?_
  rw [row_kne (by decide), up_v, if_neg (by decide), row_kne (by decide), hs.2.1.2]
  have hitr : ∀ p, 0 ≤ p → p < ni → 0 ≤ (cpF (M 45 0) (fun q => rf pop ni q ni.toNat 0) 0 ni) p ∧ (cpF (M 45 0) (fun q => rf pop ni q ni.toNat 0) 0 ni) p < ni := fun p a b => by
    have hrk := rk_RK (v := pop) (N := ni) (r := fun _ => 0) (by omega)
    unfold cpF
    rw [if_pos (by omega), show p - 0 = p by omega]
    show 0 ≤ rf pop ni p ni.toNat 0 ∧ rf pop ni p ni.toNat 0 < ni
    rw [rf_rk hrk ⟨a, b⟩]
    exact hrk.1 p a b
  have hG0 : DG kk ni 0 ni (M 46 0) := ⟨fun q a b => by omega, by simp [sp_sum], by omega⟩
  have hms0 : MS (bc_row (bc_up (bc_row M 45 0 (cpF (M 45 0) (fun q => rf pop ni q ni.toNat 0) 0 ni)) 33 0 36 0) 40 0 (cpF (M 40 0) (M 34 0) (206 * 0) 206)) dk fr pop bnd nd ni sg ln := row_ms (up_ms (row_ms hs (by decide) (by decide)) (by decide) (by decide)) (by decide) (by decide)
  have hS0 : DS (bc_row (bc_up (bc_row M 45 0 (cpF (M 45 0) (fun q => rf pop ni q ni.toNat 0) 0 ni)) 33 0 36 0) 40 0 (cpF (M 40 0) (M 34 0) (206 * 0) 206)) (bc_row (bc_up (bc_row M 45 0 (cpF (M 45 0) (fun q => rf pop ni q ni.toNat 0) 0 ni)) 33 0 36 0) 40 0 (cpF (M 40 0) (M 34 0) (206 * 0) 206)) (M 46 0) ((false, M 33 0 34, M 33 0 35, M 47 0, dk) : Bool × Int × Int × (Int → Int) × (Int → Int)) := by
    refine ⟨Fr.rf, fun f _ => rfl, ⟨?_, ?_, ?_⟩, ⟨?_, ?_, rfl⟩, ?_⟩
    · exact Eq.trans (b := 0) (by rw [row_kne (by decide), up_v, if_pos rfl]) rfl
    · rw [row_kne (by decide), up_v, if_neg (by decide), row_kne (by decide)]
    · rw [row_kne (by decide), up_v, if_neg (by decide), row_kne (by decide)]
    · rw [row_kne (by decide), up_kne (by decide), row_kne (by decide)]
    · rw [row_kne (by decide), up_kne (by decide), row_kne (by decide)]
    · exact (LK.rf hms0.2.2.1).2
  rcases (show kk = 1 ∨ kk = 2 ∨ kk = 3 ∨ kk = 4 by omega) with hk1 | hk1 | hk1 | hk1
  · skip
    refine c_X9_335 eX9_findDivision_44 (ct_dv0 (s := ((false, M 33 0 34, M 33 0 35, M 47 0, dk) : Bool × Int × Int × (Int → Int) × (Int → Int))) hkk (by rw [row_kne (by decide), up_kne (by decide), row_at]) hitr (by omega) (by omega) hG0 hS0 (fun z => absurd (show false = true from z) (by decide)) hms0 (fun M1 hS1 hR1 hms1 => ?_))
    refine wp_aload_n eX9_findDivision_47 rfl ?_
    refine wp_iconst eX9_findDivision_48 ?_
    refine c_X9_344 eX9_findDivision_49 (ct_takeBack (by omega) ?_)
    refine wp_return eX9_findDivision_52 ?_
    have hfd : fdR (fun dk => sp_WS dk fr pop nd ni sg ln 0) (fun dk => sp_S dk fr nd ni + sg * ln) (cpF (M 45 0) (fun q => rf pop ni q ni.toNat 0) 0 ni) (fun t => rf fr nd t nd.toNat 0) dk kk ni (M 46 0) (M 33 0 34) (M 33 0 35) (M 47 0) = (dvR (dvF (fun dk => sp_WS dk fr pop nd ni sg ln 0) (fun dk => sp_S dk fr nd ni + sg * ln) (cpF (M 45 0) (fun q => rf pop ni q ni.toNat 0) 0 ni) (fun t => rf fr nd t nd.toNat 0) kk) 0 0 ni (M 46 0, ((false, M 33 0 34, M 33 0 35, M 47 0, dk) : Bool × Int × Int × (Int → Int) × (Int → Int)))).2 := by
      unfold fdR
      rw [show (kk - 1).toNat = 0 by omega]
    rw [hfd] at k
    refine k _ ⟨fun k9 j9 hk9 => ?_, fun f hf => ?_, ?_, ?_, ?_⟩ (dvR_ok 0 0 ni (M 46 0) ((false, M 33 0 34, M 33 0 35, M 47 0, dk) : Bool × Int × Int × (Int → Int) × (Int → Int)) (by omega) (by omega) hG0 (fun z => absurd (show false = true from z) (by decide)))
    · by_cases e : k9 = 34 ∧ j9 = 0
      · rw [e.1, e.2, row_at, hS1.1 40 0 (by omega), row_at]
        refine aside_back (fun q hq => ?_)
        rw [hS1.2.2.2.2, row_kne (by decide), up_kne (by decide), row_kne (by decide)]
        unfold cpF
        rw [if_neg (by omega)]
      · have e2 : ∀ g9, bc_row M1 34 0 g9 k9 j9 = M1 k9 j9 := fun g9 => by simp only [bc_row, if_neg e]
        unfold mqP at hk9
        rw [e2, hS1.1 k9 j9 (by omega)]
        have e3 : ∀ (X : bc_M) g9, bc_row X 40 0 g9 k9 j9 = X k9 j9 := fun X g9 => by simp only [bc_row, if_neg (show ¬ (k9 = 40 ∧ j9 = 0) by omega)]
        have e4 : ∀ (X : bc_M) g9, bc_row X 45 0 g9 k9 j9 = X k9 j9 := fun X g9 => by simp only [bc_row, if_neg (show ¬ (k9 = 45 ∧ j9 = 0) by omega)]
        have e5 : ∀ (X : bc_M) f9 v9, bc_up X 33 0 f9 v9 k9 j9 = X k9 j9 := fun X f9 v9 => by simp only [bc_up, if_neg (show ¬ (k9 = 33 ∧ j9 = 0) by omega)]
        rw [e3, e5, e4]
    · rw [row_kne (by decide), hS1.2.1 f (Or.inl hf), row_kne (by decide), up_v, if_neg (by omega), row_kne (by decide)]
    · rw [row_kne (by decide)]; exact hS1.2.2.1.2.1
    · rw [row_kne (by decide)]; exact hS1.2.2.2.1.1
    · rw [row_kne (by decide), hS1.2.2.2.1.2.2, row_kne (by decide), up_kne (by decide), row_at]
  · skip
    refine c_X9_335 eX9_findDivision_44 (ct_dv1 (s := ((false, M 33 0 34, M 33 0 35, M 47 0, dk) : Bool × Int × Int × (Int → Int) × (Int → Int))) hkk (by rw [row_kne (by decide), up_kne (by decide), row_at]) hitr (by omega) (by omega) hG0 hS0 (fun z => absurd (show false = true from z) (by decide)) hms0 (fun M1 hS1 hR1 hms1 => ?_))
    refine wp_aload_n eX9_findDivision_47 rfl ?_
    refine wp_iconst eX9_findDivision_48 ?_
    refine c_X9_344 eX9_findDivision_49 (ct_takeBack (by omega) ?_)
    refine wp_return eX9_findDivision_52 ?_
    have hfd : fdR (fun dk => sp_WS dk fr pop nd ni sg ln 0) (fun dk => sp_S dk fr nd ni + sg * ln) (cpF (M 45 0) (fun q => rf pop ni q ni.toNat 0) 0 ni) (fun t => rf fr nd t nd.toNat 0) dk kk ni (M 46 0) (M 33 0 34) (M 33 0 35) (M 47 0) = (dvR (dvF (fun dk => sp_WS dk fr pop nd ni sg ln 0) (fun dk => sp_S dk fr nd ni + sg * ln) (cpF (M 45 0) (fun q => rf pop ni q ni.toNat 0) 0 ni) (fun t => rf fr nd t nd.toNat 0) kk) 1 0 ni (M 46 0, ((false, M 33 0 34, M 33 0 35, M 47 0, dk) : Bool × Int × Int × (Int → Int) × (Int → Int)))).2 := by
      unfold fdR
      rw [show (kk - 1).toNat = 1 by omega]
    rw [hfd] at k
    refine k _ ⟨fun k9 j9 hk9 => ?_, fun f hf => ?_, ?_, ?_, ?_⟩ (dvR_ok 1 0 ni (M 46 0) ((false, M 33 0 34, M 33 0 35, M 47 0, dk) : Bool × Int × Int × (Int → Int) × (Int → Int)) (by omega) (by omega) hG0 (fun z => absurd (show false = true from z) (by decide)))
    · by_cases e : k9 = 34 ∧ j9 = 0
      · rw [e.1, e.2, row_at, hS1.1 40 0 (by omega), row_at]
        refine aside_back (fun q hq => ?_)
        rw [hS1.2.2.2.2, row_kne (by decide), up_kne (by decide), row_kne (by decide)]
        unfold cpF
        rw [if_neg (by omega)]
      · have e2 : ∀ g9, bc_row M1 34 0 g9 k9 j9 = M1 k9 j9 := fun g9 => by simp only [bc_row, if_neg e]
        unfold mqP at hk9
        rw [e2, hS1.1 k9 j9 (by omega)]
        have e3 : ∀ (X : bc_M) g9, bc_row X 40 0 g9 k9 j9 = X k9 j9 := fun X g9 => by simp only [bc_row, if_neg (show ¬ (k9 = 40 ∧ j9 = 0) by omega)]
        have e4 : ∀ (X : bc_M) g9, bc_row X 45 0 g9 k9 j9 = X k9 j9 := fun X g9 => by simp only [bc_row, if_neg (show ¬ (k9 = 45 ∧ j9 = 0) by omega)]
        have e5 : ∀ (X : bc_M) f9 v9, bc_up X 33 0 f9 v9 k9 j9 = X k9 j9 := fun X f9 v9 => by simp only [bc_up, if_neg (show ¬ (k9 = 33 ∧ j9 = 0) by omega)]
        rw [e3, e5, e4]
    · rw [row_kne (by decide), hS1.2.1 f (Or.inl hf), row_kne (by decide), up_v, if_neg (by omega), row_kne (by decide)]
    · rw [row_kne (by decide)]; exact hS1.2.2.1.2.1
    · rw [row_kne (by decide)]; exact hS1.2.2.2.1.1
    · rw [row_kne (by decide), hS1.2.2.2.1.2.2, row_kne (by decide), up_kne (by decide), row_at]
  · skip
    refine c_X9_335 eX9_findDivision_44 (ct_dv2 (s := ((false, M 33 0 34, M 33 0 35, M 47 0, dk) : Bool × Int × Int × (Int → Int) × (Int → Int))) hkk (by rw [row_kne (by decide), up_kne (by decide), row_at]) hitr (by omega) (by omega) hG0 hS0 (fun z => absurd (show false = true from z) (by decide)) hms0 (fun M1 hS1 hR1 hms1 => ?_))
    refine wp_aload_n eX9_findDivision_47 rfl ?_
    refine wp_iconst eX9_findDivision_48 ?_
    refine c_X9_344 eX9_findDivision_49 (ct_takeBack (by omega) ?_)
    refine wp_return eX9_findDivision_52 ?_
    have hfd : fdR (fun dk => sp_WS dk fr pop nd ni sg ln 0) (fun dk => sp_S dk fr nd ni + sg * ln) (cpF (M 45 0) (fun q => rf pop ni q ni.toNat 0) 0 ni) (fun t => rf fr nd t nd.toNat 0) dk kk ni (M 46 0) (M 33 0 34) (M 33 0 35) (M 47 0) = (dvR (dvF (fun dk => sp_WS dk fr pop nd ni sg ln 0) (fun dk => sp_S dk fr nd ni + sg * ln) (cpF (M 45 0) (fun q => rf pop ni q ni.toNat 0) 0 ni) (fun t => rf fr nd t nd.toNat 0) kk) 2 0 ni (M 46 0, ((false, M 33 0 34, M 33 0 35, M 47 0, dk) : Bool × Int × Int × (Int → Int) × (Int → Int)))).2 := by
      unfold fdR
      rw [show (kk - 1).toNat = 2 by omega]
    rw [hfd] at k
    refine k _ ⟨fun k9 j9 hk9 => ?_, fun f hf => ?_, ?_, ?_, ?_⟩ (dvR_ok 2 0 ni (M 46 0) ((false, M 33 0 34, M 33 0 35, M 47 0, dk) : Bool × Int × Int × (Int → Int) × (Int → Int)) (by omega) (by omega) hG0 (fun z => absurd (show false = true from z) (by decide)))
    · by_cases e : k9 = 34 ∧ j9 = 0
      · rw [e.1, e.2, row_at, hS1.1 40 0 (by omega), row_at]
        refine aside_back (fun q hq => ?_)
        rw [hS1.2.2.2.2, row_kne (by decide), up_kne (by decide), row_kne (by decide)]
        unfold cpF
        rw [if_neg (by omega)]
      · have e2 : ∀ g9, bc_row M1 34 0 g9 k9 j9 = M1 k9 j9 := fun g9 => by simp only [bc_row, if_neg e]
        unfold mqP at hk9
        rw [e2, hS1.1 k9 j9 (by omega)]
        have e3 : ∀ (X : bc_M) g9, bc_row X 40 0 g9 k9 j9 = X k9 j9 := fun X g9 => by simp only [bc_row, if_neg (show ¬ (k9 = 40 ∧ j9 = 0) by omega)]
        have e4 : ∀ (X : bc_M) g9, bc_row X 45 0 g9 k9 j9 = X k9 j9 := fun X g9 => by simp only [bc_row, if_neg (show ¬ (k9 = 45 ∧ j9 = 0) by omega)]
        have e5 : ∀ (X : bc_M) f9 v9, bc_up X 33 0 f9 v9 k9 j9 = X k9 j9 := fun X f9 v9 => by simp only [bc_up, if_neg (show ¬ (k9 = 33 ∧ j9 = 0) by omega)]
        rw [e3, e5, e4]
    · rw [row_kne (by decide), hS1.2.1 f (Or.inl hf), row_kne (by decide), up_v, if_neg (by omega), row_kne (by decide)]
    · rw [row_kne (by decide)]; exact hS1.2.2.1.2.1
    · rw [row_kne (by decide)]; exact hS1.2.2.2.1.1
    · rw [row_kne (by decide), hS1.2.2.2.1.2.2, row_kne (by decide), up_kne (by decide), row_at]
  · skip
    refine c_X9_335 eX9_findDivision_44 (ct_dv3 (s := ((false, M 33 0 34, M 33 0 35, M 47 0, dk) : Bool × Int × Int × (Int → Int) × (Int → Int))) hkk (by rw [row_kne (by decide), up_kne (by decide), row_at]) hitr (by omega) (by omega) hG0 hS0 (fun z => absurd (show false = true from z) (by decide)) hms0 (fun M1 hS1 hR1 hms1 => ?_))
    refine wp_aload_n eX9_findDivision_47 rfl ?_
    refine wp_iconst eX9_findDivision_48 ?_
    refine c_X9_344 eX9_findDivision_49 (ct_takeBack (by omega) ?_)
    refine wp_return eX9_findDivision_52 ?_
    have hfd : fdR (fun dk => sp_WS dk fr pop nd ni sg ln 0) (fun dk => sp_S dk fr nd ni + sg * ln) (cpF (M 45 0) (fun q => rf pop ni q ni.toNat 0) 0 ni) (fun t => rf fr nd t nd.toNat 0) dk kk ni (M 46 0) (M 33 0 34) (M 33 0 35) (M 47 0) = (dvR (dvF (fun dk => sp_WS dk fr pop nd ni sg ln 0) (fun dk => sp_S dk fr nd ni + sg * ln) (cpF (M 45 0) (fun q => rf pop ni q ni.toNat 0) 0 ni) (fun t => rf fr nd t nd.toNat 0) kk) 3 0 ni (M 46 0, ((false, M 33 0 34, M 33 0 35, M 47 0, dk) : Bool × Int × Int × (Int → Int) × (Int → Int)))).2 := by
      unfold fdR
      rw [show (kk - 1).toNat = 3 by omega]
    rw [hfd] at k
    refine k _ ⟨fun k9 j9 hk9 => ?_, fun f hf => ?_, ?_, ?_, ?_⟩ (dvR_ok 3 0 ni (M 46 0) ((false, M 33 0 34, M 33 0 35, M 47 0, dk) : Bool × Int × Int × (Int → Int) × (Int → Int)) (by omega) (by omega) hG0 (fun z => absurd (show false = true from z) (by decide)))
    · by_cases e : k9 = 34 ∧ j9 = 0
      · rw [e.1, e.2, row_at, hS1.1 40 0 (by omega), row_at]
        refine aside_back (fun q hq => ?_)
        rw [hS1.2.2.2.2, row_kne (by decide), up_kne (by decide), row_kne (by decide)]
        unfold cpF
        rw [if_neg (by omega)]
      · have e2 : ∀ g9, bc_row M1 34 0 g9 k9 j9 = M1 k9 j9 := fun g9 => by simp only [bc_row, if_neg e]
        unfold mqP at hk9
        rw [e2, hS1.1 k9 j9 (by omega)]
        have e3 : ∀ (X : bc_M) g9, bc_row X 40 0 g9 k9 j9 = X k9 j9 := fun X g9 => by simp only [bc_row, if_neg (show ¬ (k9 = 40 ∧ j9 = 0) by omega)]
        have e4 : ∀ (X : bc_M) g9, bc_row X 45 0 g9 k9 j9 = X k9 j9 := fun X g9 => by simp only [bc_row, if_neg (show ¬ (k9 = 45 ∧ j9 = 0) by omega)]
        have e5 : ∀ (X : bc_M) f9 v9, bc_up X 33 0 f9 v9 k9 j9 = X k9 j9 := fun X f9 v9 => by simp only [bc_up, if_neg (show ¬ (k9 = 33 ∧ j9 = 0) by omega)]
        rw [e3, e5, e4]
    · rw [row_kne (by decide), hS1.2.1 f (Or.inl hf), row_kne (by decide), up_v, if_neg (by omega), row_kne (by decide)]
    · rw [row_kne (by decide)]; exact hS1.2.2.1.2.1
    · rw [row_kne (by decide)]; exact hS1.2.2.2.1.1
    · rw [row_kne (by decide), hS1.2.2.2.1.2.2, row_kne (by decide), up_kne (by decide), row_at]
