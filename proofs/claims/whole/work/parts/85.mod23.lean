/-- one division tried: (divided, best weight, best length, best sizes, disks) -/
def dvF (W C : (Int → Int) → Int) (it dd : Int → Int) (kk : Int) (s : Bool × Int × Int × (Int → Int) × (Int → Int)) (g : Int → Int) : Bool × Int × Int × (Int → Int) × (Int → Int) :=
  if s.1 = false ∨ W (ma_out it dd g kk.toNat 0 0 s.2.2.2.2) * s.2.2.1 < s.2.1 * C (ma_out it dd g kk.toNat 0 0 s.2.2.2.2) then (true, W (ma_out it dd g kk.toNat 0 0 s.2.2.2.2), C (ma_out it dd g kk.toNat 0 0 s.2.2.2.2), cpF s.2.2.2.1 g 0 kk, ma_out it dd g kk.toNat 0 0 s.2.2.2.2) else (s.1, s.2.1, s.2.2.1, s.2.2.2.1, ma_out it dd g kk.toNat 0 0 s.2.2.2.2)
def dvL (D : Int → (Int → Int) × (Bool × Int × Int × (Int → Int) × (Int → Int)) → (Int → Int) × (Bool × Int × Int × (Int → Int) × (Int → Int))) (t L : Int) : Nat → Int → (Int → Int) × (Bool × Int × Int × (Int → Int) × (Int → Int)) → (Int → Int) × (Bool × Int × Int × (Int → Int) × (Int → Int))
  | 0, _, s => s
  | c + 1, x, s => dvL D t L c (x + 1) (D (L - x) (bc_u s.1 t x, s.2))
def dvR (F : Bool × Int × Int × (Int → Int) × (Int → Int) → (Int → Int) → Bool × Int × Int × (Int → Int) × (Int → Int)) : Nat → Int → Int → (Int → Int) × (Bool × Int × Int × (Int → Int) × (Int → Int)) → (Int → Int) × (Bool × Int × Int × (Int → Int) × (Int → Int))
  | 0, t, L => fun s => (bc_u s.1 t L, F s.2 (bc_u s.1 t L))
  | m + 1, t, L => fun s => dvL (fun L' => dvR F m (t + 1) L') t L (L - (m + 1)).toNat 1 s
theorem dvL_lt {D : Int → (Int → Int) × (Bool × Int × Int × (Int → Int) × (Int → Int)) → (Int → Int) × (Bool × Int × Int × (Int → Int) × (Int → Int))} {t L : Int} (hD : ∀ L' s q, q < t + 1 → (D L' s).1 q = s.1 q) : ∀ (c : Nat) (x : Int) (s : (Int → Int) × (Bool × Int × Int × (Int → Int) × (Int → Int))) (q : Int), q < t → (dvL D t L c x s).1 q = s.1 q
  | 0, _, _, _, _ => rfl
  | c + 1, x, s, q, h => by
    simp only [dvL]
    rw [dvL_lt hD c (x + 1) _ q h, hD _ _ q (by omega)]
    show bc_u s.1 t x q = s.1 q
    rw [u_ne (by omega)]
theorem dvR_lt {F : Bool × Int × Int × (Int → Int) × (Int → Int) → (Int → Int) → Bool × Int × Int × (Int → Int) × (Int → Int)} : ∀ (m : Nat) (t L : Int) (s : (Int → Int) × (Bool × Int × Int × (Int → Int) × (Int → Int))) (q : Int), q < t → (dvR F m t L s).1 q = s.1 q
  | 0, t, L, s, q, h => by
    simp only [dvR]
    rw [u_ne (by omega)]
  | m + 1, t, L, s, q, h => by
    simp only [dvR]
    exact dvL_lt (fun L' s q h => dvR_lt m (t + 1) L' s q h) _ _ _ _ h
theorem spsum_c {g h : Int → Int} : ∀ (n : Nat), (∀ q, 0 ≤ q → q < n → g q = h q) → sp_sum g n = sp_sum h n
  | 0, _ => rfl
  | n + 1, e => by
    simp only [sp_sum]
    rw [spsum_c n (fun q a b => e q a (by omega)), e n (by omega) (by omega)]
theorem sp_from_sum {g : Int → Int} : ∀ (n m : Nat), sp_from g n m + sp_sum g m = sp_sum g (m + n)
  | 0, m => by simp only [sp_from, Nat.add_zero]; omega
  | n + 1, m => by
    simp only [sp_from]
    have h := sp_from_sum (g := g) n (m + 1)
    simp only [sp_sum] at h
    rw [show ((m : Int) + 1) = ((m + 1 : Nat) : Int) by omega, show m + (n + 1) = m + 1 + n by omega]
    omega
/-- the sizes before tier t; left are L -/
def DG (kk ni t L : Int) (g : Int → Int) : Prop := (∀ q, 0 ≤ q → q < t → 1 ≤ g q) ∧ sp_sum g t.toNat + L = ni ∧ kk - t ≤ L
theorem DG.st {kk ni t L x : Int} {g : Int → Int} (h : DG kk ni t L g) (ht : 0 ≤ t) (hx : 1 ≤ x) (hx2 : kk - (t + 1) ≤ L - x) : DG kk ni (t + 1) (L - x) (bc_u g t x) := by
  refine ⟨fun q a b => ?_, ?_, hx2⟩
  · by_cases e : q = t
    · subst e; rw [u_at]; exact hx
    · rw [u_ne e]; exact h.1 q a (by omega)
  · rw [show (t + 1).toNat = t.toNat + 1 by omega]
    simp only [sp_sum]
    rw [show ((t.toNat : Nat) : Int) = t by omega, u_at, spsum_c (h := g) t.toNat (fun q a b => u_ne (by omega))]
    have := h.2.1
    omega
theorem DG.c {kk ni t L : Int} {g h : Int → Int} (hg : DG kk ni t L g) (ht : 0 ≤ t) (e : ∀ q, q < t → h q = g q) : DG kk ni t L h := by
  refine ⟨fun q a b => by rw [e q b]; exact hg.1 q a b, ?_, hg.2.2⟩
  rw [spsum_c (h := g) t.toNat (fun q a b => e q (by omega))]
  exact hg.2.1
theorem DG.sz {kk ni t L : Int} {g : Int → Int} (h : DG kk ni t L g) (ht : 0 ≤ t) (hk : t + 1 = kk) : SZ kk ni (bc_u g t L) := by
  have h2 := h.2.2
  have := h.st ht (x := L) (by omega) (by omega)
  rw [hk] at this
  exact ⟨this.1, by have := this.2.1; omega⟩
/-- what dividing leaves -/
def DS (M0 Mc : bc_M) (g : Int → Int) (s : Bool × Int × Int × (Int → Int) × (Int → Int)) : Prop := Fr (fun k' j' => (k' = 33 ∨ k' = 34 ∨ (41 ≤ k' ∧ k' ≤ 47)) ∧ j' = 0) M0 Mc ∧ (∀ f, f < 25 ∨ 36 < f → Mc 33 0 f = M0 33 0 f) ∧ (Mc 33 0 36 = (if s.1 = true then 1 else 0) ∧ Mc 33 0 34 = s.2.1 ∧ Mc 33 0 35 = s.2.2.1) ∧ (Mc 47 0 = s.2.2.2.1 ∧ Mc 46 0 = g ∧ Mc 45 0 = M0 45 0) ∧ Mc 34 0 = cpF (M0 34 0) s.2.2.2.2 16 16
/-- its ranges -/
def DR (s : Bool × Int × Int × (Int → Int) × (Int → Int)) : Prop := s.1 = true → (0 ≤ s.2.1 ∧ s.2.1 ≤ 1000000000000) ∧ 0 ≤ s.2.2.1 ∧ s.2.2.1 ≤ 1000
theorem DS.sz {M0 Mc : bc_M} {g : Int → Int} {s : Bool × Int × Int × (Int → Int) × (Int → Int)} {t x : Int} (h : DS M0 Mc g s) : DS M0 (bc_up Mc 46 0 t x) (bc_u g t x) s := by
  obtain ⟨a, b, c, d, e⟩ := h
  unfold DS
  rw [up_kne (k' := 33) (by decide), up_kne (k' := 34) (by decide), up_kne (k' := 47) (by decide), up_kne (k' := 45) (by decide), up_at, d.2.1]
  exact ⟨Fr.tr a (Fr.up ⟨by omega, rfl⟩), b, c, ⟨d.1, rfl, d.2.2⟩, e⟩
theorem up46_ms {M : bc_M} {dk fr pop bnd : Int → Int} {nd ni sg ln f v : Int} {k : Nat} (hs : MS M dk fr pop bnd nd ni sg ln) (h1 : k ≠ 33) (h2 : k ≠ 34) : MS (bc_up M k 0 f v) dk fr pop bnd nd ni sg ln := by
  unfold MS at hs ⊢
  rw [up_kne (k' := 34) (fun e => h2 e.symm), up_kne (k' := 33) (fun e => h1 e.symm)]
  exact hs
theorem sp_sum_nn {g : Int → Int} {t : Int} (h : ∀ q, 0 ≤ q → q < t → 1 ≤ g q) : ∀ (n : Nat), (n : Int) ≤ t → 0 ≤ sp_sum g n
  | 0, _ => by simp only [sp_sum]; omega
  | n + 1, hn => by
    simp only [sp_sum]
    have := sp_sum_nn h n (by omega)
    have := h n (by omega) (by omega)
    omega
theorem lp_dvCp {G : bc_G} {M : bc_M} {post : bc_R → bc_M → Prop} {t kk L : Int} {g bz : Int → Int} {y4 : Option Value} (eg : M 46 0 = g) (hkk : 1 ≤ kk ∧ kk ≤ 4) : ∀ (n : Nat) (v : Int) (h1 : v + n = kk) (h2 : 0 ≤ v) (k : post (.inr none) (bc_row M 47 0 (cpF bz g 0 kk))), bc_W G RX9 cX9_divide 7 none 11 0 0 81 [some (vR G 33 0), some (vI t), some (vI kk), some (vI L), y4, none, some (vI v)] [] (bc_row M 47 0 (cpF bz g 0 v)) post := by
  intro n
  induction n with
  | zero =>
    intro v h1 h2 k
    refine wp_iload eX9_divide_81 rfl ?_
    refine wp_iload_n eX9_divide_83 rfl ?_
    refine wp_icmp_ge eX9_divide_84 (fun c84 => ?_) (fun c84 => ?_)
    · have hv : v = kk := by omega
      subst hv
      refine wp_return eX9_divide_107 ?_
      exact k
    · omega
  | succ n ih =>
    intro v h1 h2 k
    refine wp_iload eX9_divide_81 rfl ?_
    refine wp_iload_n eX9_divide_83 rfl ?_
    refine wp_icmp_ge eX9_divide_84 (fun c84 => ?_) (fun c84 => ?_)
    · omega
    · refine wp_aload_n eX9_divide_87 rfl ?_
      refine gf_X9_53 eX9_divide_88 ?_
      refine wp_iload eX9_divide_91 rfl ?_
      refine wp_aload_n eX9_divide_93 rfl ?_
      refine gf_X9_50 eX9_divide_94 ?_
      refine wp_iload eX9_divide_97 rfl ?_
      refine al_46 eX9_divide_99 ?_
      rw [row_kne (by decide), eg]
      refine as_47 eX9_divide_100 ?_
      refine inc_6 eX9_divide_101 ?_
      refine wp_goto eX9_divide_104 ?_
      rw [up_row]
      have e9 := cpF_st (g := bz) (h := g) (b := 0) (n := v) h2
      rw [Int.zero_add] at e9
      rw [e9]
      exact ih (v + 1) (by omega) (by omega) k
set_option maxHeartbeats 1000000 in
theorem ct_dv0 {G : bc_G} {M : bc_M} {post : bc_R → bc_M → Prop} {fr pop bnd : Int → Int} {nd ni sg ln kk : Int} {it : Int → Int} {M0 : bc_M} (hkk : 1 ≤ kk ∧ kk ≤ nd) (eit : M0 45 0 = it) (hit : ∀ p, 0 ≤ p → p < ni → 0 ≤ it p ∧ it p < ni) {t L : Int} (hm : t + 1 = kk) (ht : 0 ≤ t) {g : Int → Int} {s : Bool × Int × Int × (Int → Int) × (Int → Int)} (hG : DG kk ni t L g) (hS : DS M0 M g s) (hR : DR s) (hms : MS M s.2.2.2.2 fr pop bnd nd ni sg ln) (k : ∀ M' : bc_M, DS M0 M' (dvR (dvF (fun dk => sp_WS dk fr pop nd ni sg ln 0) (fun dk => sp_S dk fr nd ni + sg * ln) it (fun t => rf fr nd t nd.toNat 0) kk) 0 t L (g, s)).1 (dvR (dvF (fun dk => sp_WS dk fr pop nd ni sg ln 0) (fun dk => sp_S dk fr nd ni + sg * ln) it (fun t => rf fr nd t nd.toNat 0) kk) 0 t L (g, s)).2 → DR (dvR (dvF (fun dk => sp_WS dk fr pop nd ni sg ln 0) (fun dk => sp_S dk fr nd ni + sg * ln) it (fun t => rf fr nd t nd.toNat 0) kk) 0 t L (g, s)).2 → MS M' (dvR (dvF (fun dk => sp_WS dk fr pop nd ni sg ln 0) (fun dk => sp_S dk fr nd ni + sg * ln) it (fun t => rf fr nd t nd.toNat 0) kk) 0 t L (g, s)).2.2.2.2.2 fr pop bnd nd ni sg ln → post (.inr none) M') : bc_Call G yX9_divide cX9_divide 7 none 11 0 [vR G 33 0, vI t, vI kk, vI L] M post := by
  have hni := hms.1.2.1
  have hnd := hms.1.1
  have hgl := hG.2.2
  have hgs := hG.2.1
  have hL16 : L ≤ 16 := by
    have := sp_sum_nn hG.1 t.toNat (by omega)
    omega
  refine bc_enter (L := [some (vR G 33 0), some (vI t), some (vI kk), some (vI L), none, none, none]) (by decide) rfl rfl ?_
  refine wp_iload_n eX9_divide_0 rfl ?_
  refine wp_iload_n eX9_divide_1 rfl ?_
  refine wp_iconst eX9_divide_2 ?_
  refine wp_isub eX9_divide_3 ?_
  refine wp_icmp_ne eX9_divide_4 (fun c4 => ?_) (fun c4 => ?_)
  · omega
  · refine wp_aload_n eX9_divide_7 rfl ?_
    refine gf_X9_50 eX9_divide_8 ?_
    refine wp_iload_n eX9_divide_11 rfl ?_
    refine wp_iload_n eX9_divide_12 rfl ?_
    refine as_46 eX9_divide_13 ?_
    have hS1 := hS.sz (t := t) (x := L)
    have hms1 := up46_ms (k := 46) (f := t) (v := L) hms (by decide) (by decide)
    have hsz := hG.sz ht hm
    have hszr := hsz.rng (by omega)
    have hsf : sp_from (bc_u g t L) kk.toNat 0 = ni := by
      have h9 := sp_from_sum (g := bc_u g t L) kk.toNat 0
      simp only [sp_sum, Nat.zero_add] at h9
      have h8 := hsz.2
      rw [show (((0 : Nat)) : Int) = 0 from rfl] at h9
      omega
    refine wp_aload_n eX9_divide_14 rfl ?_
    refine wp_aload_n eX9_divide_15 rfl ?_
    refine gf_X9_50 eX9_divide_16 ?_
    refine wp_iload_n eX9_divide_19 rfl ?_
    refine c_X9_318 eX9_divide_20 (ct_asg46 hkk (by rw [hS1.2.2.2.1.2.2]; exact eit) hit hS1.2.2.2.1.2.1 (fun q a b => by have := hszr q a b; omega) hms1 (by omega) (fun M1 hK hms2 => ?_))
    refine wp_aload_n eX9_divide_23 rfl ?_
    refine wp_iconst eX9_divide_24 ?_
    refine c_X9_321 eX9_divide_25 (ct_weightOf hms2 (f := 0) (by omega) (fun M2 g1 g2 => ?_))
    have hms3 := g1.ms hms2
    have hlen := g2.len hms2.1
    have hwr := sp_WS_rng (pop := pop) (f := 0) hms2.1 (fun i a b => (hms2.2.2.2.2.2.2 i a b).1) (by omega) hlen
    have e27 := g2.1.2
    have e33 : ∀ f, f ≠ 25 → f ≠ 27 → M2 33 0 f = bc_up M 46 0 t L 33 0 f := fun f a b => by rw [g1.2 f a b, hK.1 33 0 (by omega)]
    have e36 : M2 33 0 36 = if s.1 = true then 1 else 0 := by rw [e33 36 (by decide) (by decide)]; exact hS1.2.2.1.1
    have e34 : M2 33 0 34 = s.2.1 := by rw [e33 34 (by decide) (by decide)]; exact hS1.2.2.1.2.1
    have e35 : M2 33 0 35 = s.2.2.1 := by rw [e33 35 (by decide) (by decide)]; exact hS1.2.2.1.2.2
    have e46 : M2 46 0 = bc_u g t L := by rw [g1.1 46 0 (by unfold lyP; omega), hK.1 46 0 (by omega)]; exact hS1.2.2.2.1.2.1
    have e47 : M2 47 0 = s.2.2.2.1 := by rw [g1.1 47 0 (by unfold lyP; omega), hK.1 47 0 (by omega)]; exact hS1.2.2.2.1.1
    have e45 : M2 45 0 = M0 45 0 := by rw [g1.1 45 0 (by unfold lyP; omega), hK.1 45 0 (by omega)]; exact hS1.2.2.2.1.2.2
    have eR : M2 34 0 = cpF (M0 34 0) (ma_out it (fun t => rf fr nd t nd.toNat 0) (bc_u g t L) kk.toNat 0 0 s.2.2.2.2) 16 16 := by rw [g1.1 34 0 (by unfold lyP; omega), hK.2, up_kne (by decide), hS.2.2.2.2, cpF_cpF]
    have eF : Fr (fun k' j' => (k' = 33 ∨ k' = 34 ∨ (41 ≤ k' ∧ k' ≤ 47)) ∧ j' = 0) M0 M2 := Fr.tr (Fr.tr hS1.1 (hK.1.mono (fun k9 j9 q => ⟨by omega, q.2⟩))) (g1.1.mono (fun k9 j9 q => by unfold lyP at q; exact ⟨by omega, q.2⟩))
    refine lst_4 eX9_divide_28 ?_
    refine wp_aload_n eX9_divide_30 rfl ?_
    refine gf_X9_325 eX9_divide_31 ?_
    rw [e36]
    refine wp_if_eq eX9_divide_34 (fun c34 => ?_) (fun c34 => ?_) (by split <;> omega)
    · have hs1 : s.1 = false := by
        cases h : s.1
        · rfl
        · rw [h] at c34; exact absurd c34 (by decide)
      have hk9 : dvR (dvF (fun dk => sp_WS dk fr pop nd ni sg ln 0) (fun dk => sp_S dk fr nd ni + sg * ln) it (fun t => rf fr nd t nd.toNat 0) kk) 0 t L (g, s) = (bc_u g t L, (true, sp_WS (ma_out it (fun t => rf fr nd t nd.toNat 0) (bc_u g t L) kk.toNat 0 0 s.2.2.2.2) fr pop nd ni sg ln 0, sp_S (ma_out it (fun t => rf fr nd t nd.toNat 0) (bc_u g t L) kk.toNat 0 0 s.2.2.2.2) fr nd ni + sg * ln, cpF s.2.2.2.1 (bc_u g t L) 0 kk, ma_out it (fun t => rf fr nd t nd.toNat 0) (bc_u g t L) kk.toNat 0 0 s.2.2.2.2)) := by
        simp only [dvR, dvF]
        rw [if_pos (Or.inl hs1)]
      rw [hk9] at k
      refine wp_aload_n eX9_divide_59 rfl ?_
      refine wp_iconst eX9_divide_60 ?_
      refine pf_X9_325 eX9_divide_61 (by decide) ?_
      refine wp_aload_n eX9_divide_64 rfl ?_
      refine wp_lload eX9_divide_65 rfl ?_
      refine pf_X9_331 eX9_divide_67 ?_
      refine wp_aload_n eX9_divide_70 rfl ?_
      refine wp_aload_n eX9_divide_71 rfl ?_
      refine gf_X9_231 eX9_divide_72 ?_
      rw [up_v, if_neg (by decide), up_v, if_neg (by decide), e27]
      refine pf_X9_328 eX9_divide_75 ?_
      refine wp_iconst eX9_divide_78 ?_
      refine ist_6 eX9_divide_79 ?_
      have eX : bc_up (bc_up (bc_up M2 33 0 36 1) 33 0 34 (sp_WS (ma_out it (fun t => rf fr nd t nd.toNat 0) (bc_u g t L) kk.toNat 0 0 s.2.2.2.2) fr pop nd ni sg ln 0)) 33 0 35 (sp_S (ma_out it (fun t => rf fr nd t nd.toNat 0) (bc_u g t L) kk.toNat 0 0 s.2.2.2.2) fr nd ni + sg * ln) = bc_row (bc_up (bc_up (bc_up M2 33 0 36 1) 33 0 34 (sp_WS (ma_out it (fun t => rf fr nd t nd.toNat 0) (bc_u g t L) kk.toNat 0 0 s.2.2.2.2) fr pop nd ni sg ln 0)) 33 0 35 (sp_S (ma_out it (fun t => rf fr nd t nd.toNat 0) (bc_u g t L) kk.toNat 0 0 s.2.2.2.2) fr nd ni + sg * ln)) 47 0 (cpF s.2.2.2.1 (bc_u g t L) 0 0) := by
        have e9 : (bc_up (bc_up (bc_up M2 33 0 36 1) 33 0 34 (sp_WS (ma_out it (fun t => rf fr nd t nd.toNat 0) (bc_u g t L) kk.toNat 0 0 s.2.2.2.2) fr pop nd ni sg ln 0)) 33 0 35 (sp_S (ma_out it (fun t => rf fr nd t nd.toNat 0) (bc_u g t L) kk.toNat 0 0 s.2.2.2.2) fr nd ni + sg * ln)) 47 0 = s.2.2.2.1 := by rw [up_kne (by decide), up_kne (by decide), up_kne (by decide), e47]
        rw [cpF0, ← e9]
        exact row_self.symm
      rw [eX]
      refine lp_dvCp (by rw [up_kne (by decide), up_kne (by decide), up_kne (by decide)]; exact e46) (by omega) kk.toNat 0 (by omega) (by omega) ?_
      refine k _ ⟨Fr.tr eF (Fr.tr (Fr.tr (Fr.tr (Fr.up ⟨Or.inl rfl, rfl⟩) (Fr.up ⟨Or.inl rfl, rfl⟩)) (Fr.up ⟨Or.inl rfl, rfl⟩)) (row_fr.mono (fun k9 j9 q => by unfold at1 at q; exact ⟨by omega, q.2⟩))), fun f hf => ?_, ⟨?_, ?_, ?_⟩, ⟨row_at, ?_, ?_⟩, ?_⟩ (fun _ => ⟨hwr, (show 0 ≤ sp_S (ma_out it (fun t => rf fr nd t nd.toNat 0) (bc_u g t L) kk.toNat 0 0 s.2.2.2.2) fr nd ni + sg * ln ∧ sp_S (ma_out it (fun t => rf fr nd t nd.toNat 0) (bc_u g t L) kk.toNat 0 0 s.2.2.2.2) fr nd ni + sg * ln ≤ 1000 by omega)⟩) ?_
      · rw [row_kne (by decide), up_v, if_neg (by omega), up_v, if_neg (by omega), up_v, if_neg (by omega), e33 f (by omega) (by omega)]; exact hS1.2.1 f hf
      · rw [row_kne (by decide), up_v, if_neg (by decide), up_v, if_neg (by decide), up_v, if_pos rfl, if_pos rfl]
      · rw [row_kne (by decide), up_v, if_neg (by decide), up_v, if_pos rfl]
      · rw [row_kne (by decide), up_v, if_pos rfl]
      · rw [row_kne (by decide), up_kne (by decide), up_kne (by decide), up_kne (by decide)]; exact e46
      · rw [row_kne (by decide), up_kne (by decide), up_kne (by decide), up_kne (by decide)]; exact e45
      · rw [row_kne (by decide), up_kne (by decide), up_kne (by decide), up_kne (by decide)]; exact eR
      · exact row_ms (up_ms (up_ms (up_ms hms3 (by decide) (by decide)) (by decide) (by decide)) (by decide) (by decide)) (by decide) (by decide)
    · have hs1 : s.1 = true := by
        cases h : s.1
        · rw [h] at c34; exact absurd rfl c34
        · rfl
      refine wp_lload eX9_divide_37 rfl ?_
      refine wp_aload_n eX9_divide_39 rfl ?_
      refine gf_X9_328 eX9_divide_40 ?_
      rw [e35]
      have hR1 := hR hs1
      refine wp_i2l eX9_divide_43 ?_
      refine wp_lmul eX9_divide_44 ?_
      refine wp_aload_n eX9_divide_45 rfl ?_
      refine gf_X9_331 eX9_divide_46 ?_
      rw [e34]
      refine wp_aload_n eX9_divide_49 rfl ?_
      refine gf_X9_231 eX9_divide_50 ?_
      rw [e27]
      refine wp_i2l eX9_divide_53 ?_
      refine wp_lmul eX9_divide_54 ?_
      have b1 := bm_abs (a := sp_WS (ma_out it (fun t => rf fr nd t nd.toNat 0) (bc_u g t L) kk.toNat 0 0 s.2.2.2.2) fr pop nd ni sg ln 0) (b := s.2.2.1) (A := 1000000000000) (B := 1000) (by omega) (by omega)
      have b2 := bm_abs (a := s.2.1) (b := sp_S (ma_out it (fun t => rf fr nd t nd.toNat 0) (bc_u g t L) kk.toNat 0 0 s.2.2.2.2) fr nd ni + sg * ln) (A := 1000000000000) (B := 1000) (by omega) (by omega)
      refine wp_lcmp eX9_divide_55 ?_
      refine wp_if_ge eX9_divide_56 (fun c56 => ?_) (fun c56 => ?_) bx_cr
      · rw [bx_ge] at c56
        have hk9 : dvR (dvF (fun dk => sp_WS dk fr pop nd ni sg ln 0) (fun dk => sp_S dk fr nd ni + sg * ln) it (fun t => rf fr nd t nd.toNat 0) kk) 0 t L (g, s) = (bc_u g t L, (s.1, s.2.1, s.2.2.1, s.2.2.2.1, ma_out it (fun t => rf fr nd t nd.toNat 0) (bc_u g t L) kk.toNat 0 0 s.2.2.2.2)) := by
          simp only [dvR, dvF]
          rw [if_neg (fun q => q.elim (fun z => by rw [hs1] at z; exact absurd z (by decide)) (fun z => by omega))]
        rw [hk9] at k
        refine wp_return eX9_divide_107 ?_
        exact k M2 ⟨eF, fun f hf => by rw [e33 f (by omega) (by omega)]; exact hS1.2.1 f hf, ⟨e36, e34, e35⟩, ⟨e47, e46, e45⟩, eR⟩ hR hms3
      · rw [bx_ge] at c56
        have hk9 : dvR (dvF (fun dk => sp_WS dk fr pop nd ni sg ln 0) (fun dk => sp_S dk fr nd ni + sg * ln) it (fun t => rf fr nd t nd.toNat 0) kk) 0 t L (g, s) = (bc_u g t L, (true, sp_WS (ma_out it (fun t => rf fr nd t nd.toNat 0) (bc_u g t L) kk.toNat 0 0 s.2.2.2.2) fr pop nd ni sg ln 0, sp_S (ma_out it (fun t => rf fr nd t nd.toNat 0) (bc_u g t L) kk.toNat 0 0 s.2.2.2.2) fr nd ni + sg * ln, cpF s.2.2.2.1 (bc_u g t L) 0 kk, ma_out it (fun t => rf fr nd t nd.toNat 0) (bc_u g t L) kk.toNat 0 0 s.2.2.2.2)) := by
          simp only [dvR, dvF]
          rw [if_pos (Or.inr (by omega))]
        rw [hk9] at k
        refine wp_aload_n eX9_divide_59 rfl ?_
        refine wp_iconst eX9_divide_60 ?_
        refine pf_X9_325 eX9_divide_61 (by decide) ?_
        refine wp_aload_n eX9_divide_64 rfl ?_
        refine wp_lload eX9_divide_65 rfl ?_
        refine pf_X9_331 eX9_divide_67 ?_
        refine wp_aload_n eX9_divide_70 rfl ?_
        refine wp_aload_n eX9_divide_71 rfl ?_
        refine gf_X9_231 eX9_divide_72 ?_
        rw [up_v, if_neg (by decide), up_v, if_neg (by decide), e27]
        refine pf_X9_328 eX9_divide_75 ?_
        refine wp_iconst eX9_divide_78 ?_
        refine ist_6 eX9_divide_79 ?_
        have eX : bc_up (bc_up (bc_up M2 33 0 36 1) 33 0 34 (sp_WS (ma_out it (fun t => rf fr nd t nd.toNat 0) (bc_u g t L) kk.toNat 0 0 s.2.2.2.2) fr pop nd ni sg ln 0)) 33 0 35 (sp_S (ma_out it (fun t => rf fr nd t nd.toNat 0) (bc_u g t L) kk.toNat 0 0 s.2.2.2.2) fr nd ni + sg * ln) = bc_row (bc_up (bc_up (bc_up M2 33 0 36 1) 33 0 34 (sp_WS (ma_out it (fun t => rf fr nd t nd.toNat 0) (bc_u g t L) kk.toNat 0 0 s.2.2.2.2) fr pop nd ni sg ln 0)) 33 0 35 (sp_S (ma_out it (fun t => rf fr nd t nd.toNat 0) (bc_u g t L) kk.toNat 0 0 s.2.2.2.2) fr nd ni + sg * ln)) 47 0 (cpF s.2.2.2.1 (bc_u g t L) 0 0) := by
          have e9 : (bc_up (bc_up (bc_up M2 33 0 36 1) 33 0 34 (sp_WS (ma_out it (fun t => rf fr nd t nd.toNat 0) (bc_u g t L) kk.toNat 0 0 s.2.2.2.2) fr pop nd ni sg ln 0)) 33 0 35 (sp_S (ma_out it (fun t => rf fr nd t nd.toNat 0) (bc_u g t L) kk.toNat 0 0 s.2.2.2.2) fr nd ni + sg * ln)) 47 0 = s.2.2.2.1 := by rw [up_kne (by decide), up_kne (by decide), up_kne (by decide), e47]
          rw [cpF0, ← e9]
          exact row_self.symm
        rw [eX]
        refine lp_dvCp (by rw [up_kne (by decide), up_kne (by decide), up_kne (by decide)]; exact e46) (by omega) kk.toNat 0 (by omega) (by omega) ?_
        refine k _ ⟨Fr.tr eF (Fr.tr (Fr.tr (Fr.tr (Fr.up ⟨Or.inl rfl, rfl⟩) (Fr.up ⟨Or.inl rfl, rfl⟩)) (Fr.up ⟨Or.inl rfl, rfl⟩)) (row_fr.mono (fun k9 j9 q => by unfold at1 at q; exact ⟨by omega, q.2⟩))), fun f hf => ?_, ⟨?_, ?_, ?_⟩, ⟨row_at, ?_, ?_⟩, ?_⟩ (fun _ => ⟨hwr, (show 0 ≤ sp_S (ma_out it (fun t => rf fr nd t nd.toNat 0) (bc_u g t L) kk.toNat 0 0 s.2.2.2.2) fr nd ni + sg * ln ∧ sp_S (ma_out it (fun t => rf fr nd t nd.toNat 0) (bc_u g t L) kk.toNat 0 0 s.2.2.2.2) fr nd ni + sg * ln ≤ 1000 by omega)⟩) ?_
        · rw [row_kne (by decide), up_v, if_neg (by omega), up_v, if_neg (by omega), up_v, if_neg (by omega), e33 f (by omega) (by omega)]; exact hS1.2.1 f hf
        · rw [row_kne (by decide), up_v, if_neg (by decide), up_v, if_neg (by decide), up_v, if_pos rfl, if_pos rfl]
        · rw [row_kne (by decide), up_v, if_neg (by decide), up_v, if_pos rfl]
        · rw [row_kne (by decide), up_v, if_pos rfl]
        · rw [row_kne (by decide), up_kne (by decide), up_kne (by decide), up_kne (by decide)]; exact e46
        · rw [row_kne (by decide), up_kne (by decide), up_kne (by decide), up_kne (by decide)]; exact e45
        · rw [row_kne (by decide), up_kne (by decide), up_kne (by decide), up_kne (by decide)]; exact eR
        · exact row_ms (up_ms (up_ms (up_ms hms3 (by decide) (by decide)) (by decide) (by decide)) (by decide) (by decide)) (by decide) (by decide)
theorem lp_dv1 {G : bc_G} {post : bc_R → bc_M → Prop} {fr pop bnd : Int → Int} {nd ni sg ln kk : Int} {it : Int → Int} {M0 : bc_M} (hkk : 1 ≤ kk ∧ kk ≤ nd) (eit : M0 45 0 = it) (hit : ∀ p, 0 ≤ p → p < ni → 0 ≤ it p ∧ it p < ni) {t L : Int} {g0 : Int → Int} (hm : t + 2 = kk) (ht : 0 ≤ t) (hG : DG kk ni t L g0) (hkd : kk ≤ 4) (hL : L ≤ 16) : ∀ (n : Nat) (x : Int) (g : Int → Int) (s : Bool × Int × Int × (Int → Int) × (Int → Int)) (Mc : bc_M) (h1 : x + n = L - 1 + 1) (h2 : 1 ≤ x) (hgt : ∀ q, q < t → g q = g0 q) (hS : DS M0 Mc g s) (hR : DR s) (hms : MS Mc s.2.2.2.2 fr pop bnd nd ni sg ln) (k : ∀ M' : bc_M, DS M0 M' (dvL (fun L' => dvR (dvF (fun dk => sp_WS dk fr pop nd ni sg ln 0) (fun dk => sp_S dk fr nd ni + sg * ln) it (fun t => rf fr nd t nd.toNat 0) kk) 0 (t + 1) L') t L n x (g, s)).1 (dvL (fun L' => dvR (dvF (fun dk => sp_WS dk fr pop nd ni sg ln 0) (fun dk => sp_S dk fr nd ni + sg * ln) it (fun t => rf fr nd t nd.toNat 0) kk) 0 (t + 1) L') t L n x (g, s)).2 → DR (dvL (fun L' => dvR (dvF (fun dk => sp_WS dk fr pop nd ni sg ln 0) (fun dk => sp_S dk fr nd ni + sg * ln) it (fun t => rf fr nd t nd.toNat 0) kk) 0 (t + 1) L') t L n x (g, s)).2 → MS M' (dvL (fun L' => dvR (dvF (fun dk => sp_WS dk fr pop nd ni sg ln 0) (fun dk => sp_S dk fr nd ni + sg * ln) it (fun t => rf fr nd t nd.toNat 0) kk) 0 (t + 1) L') t L n x (g, s)).2.2.2.2.2 fr pop bnd nd ni sg ln → post (.inr none) M'), bc_W G RX9 cX9_divide 7 none 12 0 0 111 [some (vR G 33 0), some (vI t), some (vI kk), some (vI L), some (vI x), none, none] [] Mc post := by
  intro n
  induction n with
  | zero =>
    intro x g s Mc h1 h2 hgt hS hR hms k
    have hni := hms.1.2.1
    have hnd := hms.1.1
    have hgl := hG.2.2
    refine wp_iload eX9_divide_111 rfl ?_
    refine wp_iload_n eX9_divide_113 rfl ?_
    refine wp_iload_n eX9_divide_114 rfl ?_
    refine wp_iconst eX9_divide_115 ?_
    refine wp_isub eX9_divide_116 ?_
    refine wp_iload_n eX9_divide_117 rfl ?_
    refine wp_isub eX9_divide_118 ?_
    refine wp_isub eX9_divide_119 ?_
    refine wp_icmp_gt eX9_divide_120 (fun c120 => ?_) (fun c120 => ?_)
    · refine wp_return eX9_divide_149 ?_
      exact k Mc hS hR hms
    · omega
  | succ n ih =>
    intro x g s Mc h1 h2 hgt hS hR hms k
    have hni := hms.1.2.1
    have hnd := hms.1.1
    have hgl := hG.2.2
    refine wp_iload eX9_divide_111 rfl ?_
    refine wp_iload_n eX9_divide_113 rfl ?_
    refine wp_iload_n eX9_divide_114 rfl ?_
    refine wp_iconst eX9_divide_115 ?_
    refine wp_isub eX9_divide_116 ?_
    refine wp_iload_n eX9_divide_117 rfl ?_
    refine wp_isub eX9_divide_118 ?_
    refine wp_isub eX9_divide_119 ?_
    refine wp_icmp_gt eX9_divide_120 (fun c120 => ?_) (fun c120 => ?_)
    · omega
    · refine wp_aload_n eX9_divide_123 rfl ?_
      refine gf_X9_50 eX9_divide_124 ?_
      refine wp_iload_n eX9_divide_127 rfl ?_
      refine wp_iload eX9_divide_128 rfl ?_
      refine as_46 eX9_divide_130 ?_
      refine wp_aload_n eX9_divide_131 rfl ?_
      refine wp_iload_n eX9_divide_132 rfl ?_
      refine wp_iconst eX9_divide_133 ?_
      refine wp_iadd eX9_divide_134 ?_
      refine wp_iload_n eX9_divide_135 rfl ?_
      refine wp_iload_n eX9_divide_136 rfl ?_
      refine wp_iload eX9_divide_137 rfl ?_
      refine wp_isub eX9_divide_139 ?_
      refine c_X9_335 eX9_divide_140 (ct_dv0 hkk eit hit (by omega) (by omega) (hG.c ht (fun q hq => hgt q hq) |>.st ht (x := x) (by omega) (by omega)) (hS.sz (t := t) (x := x)) hR (up46_ms hms (by decide) (by decide)) (fun M1 hS1 hR1 hms1 => ?_))
      refine inc_4 eX9_divide_143 ?_
      refine wp_goto eX9_divide_146 ?_
      exact ih (x + 1) _ _ M1 (by omega) (by omega) (fun q hq => by rw [dvR_lt _ _ _ _ q (by omega)]; show bc_u g t x q = g0 q; rw [u_ne (by omega)]; exact hgt q hq) hS1 hR1 hms1 k
set_option maxHeartbeats 1000000 in
theorem ct_dv1 {G : bc_G} {M : bc_M} {post : bc_R → bc_M → Prop} {fr pop bnd : Int → Int} {nd ni sg ln kk : Int} {it : Int → Int} {M0 : bc_M} (hkk : 1 ≤ kk ∧ kk ≤ nd) (eit : M0 45 0 = it) (hit : ∀ p, 0 ≤ p → p < ni → 0 ≤ it p ∧ it p < ni) {t L : Int} (hm : t + 2 = kk) (ht : 0 ≤ t) {g : Int → Int} {s : Bool × Int × Int × (Int → Int) × (Int → Int)} (hG : DG kk ni t L g) (hS : DS M0 M g s) (hR : DR s) (hms : MS M s.2.2.2.2 fr pop bnd nd ni sg ln) (k : ∀ M' : bc_M, DS M0 M' (dvR (dvF (fun dk => sp_WS dk fr pop nd ni sg ln 0) (fun dk => sp_S dk fr nd ni + sg * ln) it (fun t => rf fr nd t nd.toNat 0) kk) 1 t L (g, s)).1 (dvR (dvF (fun dk => sp_WS dk fr pop nd ni sg ln 0) (fun dk => sp_S dk fr nd ni + sg * ln) it (fun t => rf fr nd t nd.toNat 0) kk) 1 t L (g, s)).2 → DR (dvR (dvF (fun dk => sp_WS dk fr pop nd ni sg ln 0) (fun dk => sp_S dk fr nd ni + sg * ln) it (fun t => rf fr nd t nd.toNat 0) kk) 1 t L (g, s)).2 → MS M' (dvR (dvF (fun dk => sp_WS dk fr pop nd ni sg ln 0) (fun dk => sp_S dk fr nd ni + sg * ln) it (fun t => rf fr nd t nd.toNat 0) kk) 1 t L (g, s)).2.2.2.2.2 fr pop bnd nd ni sg ln → post (.inr none) M') : bc_Call G yX9_divide cX9_divide 7 none 12 0 [vR G 33 0, vI t, vI kk, vI L] M post := by
  have hni := hms.1.2.1
  have hnd := hms.1.1
  have hgl := hG.2.2
  have hgs := hG.2.1
  have hL16 : L ≤ 16 := by
    have := sp_sum_nn hG.1 t.toNat (by omega)
    omega
  have hr9 : dvR (dvF (fun dk => sp_WS dk fr pop nd ni sg ln 0) (fun dk => sp_S dk fr nd ni + sg * ln) it (fun t => rf fr nd t nd.toNat 0) kk) 1 t L (g, s) = dvL (fun L' => dvR (dvF (fun dk => sp_WS dk fr pop nd ni sg ln 0) (fun dk => sp_S dk fr nd ni + sg * ln) it (fun t => rf fr nd t nd.toNat 0) kk) 0 (t + 1) L') t L (L - 1).toNat 1 (g, s) := by
    show dvL (fun L' => dvR (dvF (fun dk => sp_WS dk fr pop nd ni sg ln 0) (fun dk => sp_S dk fr nd ni + sg * ln) it (fun t => rf fr nd t nd.toNat 0) kk) 0 (t + 1) L') t L (L - (((0 : Nat) : Int) + 1)).toNat 1 (g, s) = _
    congr 1
  refine bc_enter (L := [some (vR G 33 0), some (vI t), some (vI kk), some (vI L), none, none, none]) (by decide) rfl rfl ?_
  refine wp_iload_n eX9_divide_0 rfl ?_
  refine wp_iload_n eX9_divide_1 rfl ?_
  refine wp_iconst eX9_divide_2 ?_
  refine wp_isub eX9_divide_3 ?_
  refine wp_icmp_ne eX9_divide_4 (fun c4 => ?_) (fun c4 => ?_)
  · refine wp_iconst eX9_divide_108 ?_
    refine ist_4 eX9_divide_109 ?_
    exact lp_dv1 hkk eit hit hm ht hG (by omega) hL16 (L - 1).toNat 1 g s M (by omega) (by omega) (fun q hq => rfl) hS hR hms (fun M' a b c => k M' (by rw [hr9]; exact a) (by rw [hr9]; exact b) (by rw [hr9]; exact c))
  · omega
theorem lp_dv2 {G : bc_G} {post : bc_R → bc_M → Prop} {fr pop bnd : Int → Int} {nd ni sg ln kk : Int} {it : Int → Int} {M0 : bc_M} (hkk : 1 ≤ kk ∧ kk ≤ nd) (eit : M0 45 0 = it) (hit : ∀ p, 0 ≤ p → p < ni → 0 ≤ it p ∧ it p < ni) {t L : Int} {g0 : Int → Int} (hm : t + 3 = kk) (ht : 0 ≤ t) (hG : DG kk ni t L g0) (hkd : kk ≤ 4) (hL : L ≤ 16) : ∀ (n : Nat) (x : Int) (g : Int → Int) (s : Bool × Int × Int × (Int → Int) × (Int → Int)) (Mc : bc_M) (h1 : x + n = L - 2 + 1) (h2 : 1 ≤ x) (hgt : ∀ q, q < t → g q = g0 q) (hS : DS M0 Mc g s) (hR : DR s) (hms : MS Mc s.2.2.2.2 fr pop bnd nd ni sg ln) (k : ∀ M' : bc_M, DS M0 M' (dvL (fun L' => dvR (dvF (fun dk => sp_WS dk fr pop nd ni sg ln 0) (fun dk => sp_S dk fr nd ni + sg * ln) it (fun t => rf fr nd t nd.toNat 0) kk) 1 (t + 1) L') t L n x (g, s)).1 (dvL (fun L' => dvR (dvF (fun dk => sp_WS dk fr pop nd ni sg ln 0) (fun dk => sp_S dk fr nd ni + sg * ln) it (fun t => rf fr nd t nd.toNat 0) kk) 1 (t + 1) L') t L n x (g, s)).2 → DR (dvL (fun L' => dvR (dvF (fun dk => sp_WS dk fr pop nd ni sg ln 0) (fun dk => sp_S dk fr nd ni + sg * ln) it (fun t => rf fr nd t nd.toNat 0) kk) 1 (t + 1) L') t L n x (g, s)).2 → MS M' (dvL (fun L' => dvR (dvF (fun dk => sp_WS dk fr pop nd ni sg ln 0) (fun dk => sp_S dk fr nd ni + sg * ln) it (fun t => rf fr nd t nd.toNat 0) kk) 1 (t + 1) L') t L n x (g, s)).2.2.2.2.2 fr pop bnd nd ni sg ln → post (.inr none) M'), bc_W G RX9 cX9_divide 7 none 13 0 0 111 [some (vR G 33 0), some (vI t), some (vI kk), some (vI L), some (vI x), none, none] [] Mc post := by
  intro n
  induction n with
  | zero =>
    intro x g s Mc h1 h2 hgt hS hR hms k
    have hni := hms.1.2.1
    have hnd := hms.1.1
    have hgl := hG.2.2
    refine wp_iload eX9_divide_111 rfl ?_
    refine wp_iload_n eX9_divide_113 rfl ?_
    refine wp_iload_n eX9_divide_114 rfl ?_
    refine wp_iconst eX9_divide_115 ?_
    refine wp_isub eX9_divide_116 ?_
    refine wp_iload_n eX9_divide_117 rfl ?_
    refine wp_isub eX9_divide_118 ?_
    refine wp_isub eX9_divide_119 ?_
    refine wp_icmp_gt eX9_divide_120 (fun c120 => ?_) (fun c120 => ?_)
    · refine wp_return eX9_divide_149 ?_
      exact k Mc hS hR hms
    · omega
  | succ n ih =>
    intro x g s Mc h1 h2 hgt hS hR hms k
    have hni := hms.1.2.1
    have hnd := hms.1.1
    have hgl := hG.2.2
    refine wp_iload eX9_divide_111 rfl ?_
    refine wp_iload_n eX9_divide_113 rfl ?_
    refine wp_iload_n eX9_divide_114 rfl ?_
    refine wp_iconst eX9_divide_115 ?_
    refine wp_isub eX9_divide_116 ?_
    refine wp_iload_n eX9_divide_117 rfl ?_
    refine wp_isub eX9_divide_118 ?_
    refine wp_isub eX9_divide_119 ?_
    refine wp_icmp_gt eX9_divide_120 (fun c120 => ?_) (fun c120 => ?_)
    · omega
    · refine wp_aload_n eX9_divide_123 rfl ?_
      refine gf_X9_50 eX9_divide_124 ?_
      refine wp_iload_n eX9_divide_127 rfl ?_
      refine wp_iload eX9_divide_128 rfl ?_
      refine as_46 eX9_divide_130 ?_
      refine wp_aload_n eX9_divide_131 rfl ?_
      refine wp_iload_n eX9_divide_132 rfl ?_
      refine wp_iconst eX9_divide_133 ?_
      refine wp_iadd eX9_divide_134 ?_
      refine wp_iload_n eX9_divide_135 rfl ?_
      refine wp_iload_n eX9_divide_136 rfl ?_
      refine wp_iload eX9_divide_137 rfl ?_
      refine wp_isub eX9_divide_139 ?_
      refine c_X9_335 eX9_divide_140 (ct_dv1 hkk eit hit (by omega) (by omega) (hG.c ht (fun q hq => hgt q hq) |>.st ht (x := x) (by omega) (by omega)) (hS.sz (t := t) (x := x)) hR (up46_ms hms (by decide) (by decide)) (fun M1 hS1 hR1 hms1 => ?_))
      refine inc_4 eX9_divide_143 ?_
      refine wp_goto eX9_divide_146 ?_
      exact ih (x + 1) _ _ M1 (by omega) (by omega) (fun q hq => by rw [dvR_lt _ _ _ _ q (by omega)]; show bc_u g t x q = g0 q; rw [u_ne (by omega)]; exact hgt q hq) hS1 hR1 hms1 k
set_option maxHeartbeats 1000000 in
theorem ct_dv2 {G : bc_G} {M : bc_M} {post : bc_R → bc_M → Prop} {fr pop bnd : Int → Int} {nd ni sg ln kk : Int} {it : Int → Int} {M0 : bc_M} (hkk : 1 ≤ kk ∧ kk ≤ nd) (eit : M0 45 0 = it) (hit : ∀ p, 0 ≤ p → p < ni → 0 ≤ it p ∧ it p < ni) {t L : Int} (hm : t + 3 = kk) (ht : 0 ≤ t) {g : Int → Int} {s : Bool × Int × Int × (Int → Int) × (Int → Int)} (hG : DG kk ni t L g) (hS : DS M0 M g s) (hR : DR s) (hms : MS M s.2.2.2.2 fr pop bnd nd ni sg ln) (k : ∀ M' : bc_M, DS M0 M' (dvR (dvF (fun dk => sp_WS dk fr pop nd ni sg ln 0) (fun dk => sp_S dk fr nd ni + sg * ln) it (fun t => rf fr nd t nd.toNat 0) kk) 2 t L (g, s)).1 (dvR (dvF (fun dk => sp_WS dk fr pop nd ni sg ln 0) (fun dk => sp_S dk fr nd ni + sg * ln) it (fun t => rf fr nd t nd.toNat 0) kk) 2 t L (g, s)).2 → DR (dvR (dvF (fun dk => sp_WS dk fr pop nd ni sg ln 0) (fun dk => sp_S dk fr nd ni + sg * ln) it (fun t => rf fr nd t nd.toNat 0) kk) 2 t L (g, s)).2 → MS M' (dvR (dvF (fun dk => sp_WS dk fr pop nd ni sg ln 0) (fun dk => sp_S dk fr nd ni + sg * ln) it (fun t => rf fr nd t nd.toNat 0) kk) 2 t L (g, s)).2.2.2.2.2 fr pop bnd nd ni sg ln → post (.inr none) M') : bc_Call G yX9_divide cX9_divide 7 none 13 0 [vR G 33 0, vI t, vI kk, vI L] M post := by
  have hni := hms.1.2.1
  have hnd := hms.1.1
  have hgl := hG.2.2
  have hgs := hG.2.1
  have hL16 : L ≤ 16 := by
    have := sp_sum_nn hG.1 t.toNat (by omega)
    omega
  have hr9 : dvR (dvF (fun dk => sp_WS dk fr pop nd ni sg ln 0) (fun dk => sp_S dk fr nd ni + sg * ln) it (fun t => rf fr nd t nd.toNat 0) kk) 2 t L (g, s) = dvL (fun L' => dvR (dvF (fun dk => sp_WS dk fr pop nd ni sg ln 0) (fun dk => sp_S dk fr nd ni + sg * ln) it (fun t => rf fr nd t nd.toNat 0) kk) 1 (t + 1) L') t L (L - 2).toNat 1 (g, s) := by
    show dvL (fun L' => dvR (dvF (fun dk => sp_WS dk fr pop nd ni sg ln 0) (fun dk => sp_S dk fr nd ni + sg * ln) it (fun t => rf fr nd t nd.toNat 0) kk) 1 (t + 1) L') t L (L - (((1 : Nat) : Int) + 1)).toNat 1 (g, s) = _
    congr 1
  refine bc_enter (L := [some (vR G 33 0), some (vI t), some (vI kk), some (vI L), none, none, none]) (by decide) rfl rfl ?_
  refine wp_iload_n eX9_divide_0 rfl ?_
  refine wp_iload_n eX9_divide_1 rfl ?_
  refine wp_iconst eX9_divide_2 ?_
  refine wp_isub eX9_divide_3 ?_
  refine wp_icmp_ne eX9_divide_4 (fun c4 => ?_) (fun c4 => ?_)
  · refine wp_iconst eX9_divide_108 ?_
    refine ist_4 eX9_divide_109 ?_
    exact lp_dv2 hkk eit hit hm ht hG (by omega) hL16 (L - 2).toNat 1 g s M (by omega) (by omega) (fun q hq => rfl) hS hR hms (fun M' a b c => k M' (by rw [hr9]; exact a) (by rw [hr9]; exact b) (by rw [hr9]; exact c))
  · omega
theorem lp_dv3 {G : bc_G} {post : bc_R → bc_M → Prop} {fr pop bnd : Int → Int} {nd ni sg ln kk : Int} {it : Int → Int} {M0 : bc_M} (hkk : 1 ≤ kk ∧ kk ≤ nd) (eit : M0 45 0 = it) (hit : ∀ p, 0 ≤ p → p < ni → 0 ≤ it p ∧ it p < ni) {t L : Int} {g0 : Int → Int} (hm : t + 4 = kk) (ht : 0 ≤ t) (hG : DG kk ni t L g0) (hkd : kk ≤ 4) (hL : L ≤ 16) : ∀ (n : Nat) (x : Int) (g : Int → Int) (s : Bool × Int × Int × (Int → Int) × (Int → Int)) (Mc : bc_M) (h1 : x + n = L - 3 + 1) (h2 : 1 ≤ x) (hgt : ∀ q, q < t → g q = g0 q) (hS : DS M0 Mc g s) (hR : DR s) (hms : MS Mc s.2.2.2.2 fr pop bnd nd ni sg ln) (k : ∀ M' : bc_M, DS M0 M' (dvL (fun L' => dvR (dvF (fun dk => sp_WS dk fr pop nd ni sg ln 0) (fun dk => sp_S dk fr nd ni + sg * ln) it (fun t => rf fr nd t nd.toNat 0) kk) 2 (t + 1) L') t L n x (g, s)).1 (dvL (fun L' => dvR (dvF (fun dk => sp_WS dk fr pop nd ni sg ln 0) (fun dk => sp_S dk fr nd ni + sg * ln) it (fun t => rf fr nd t nd.toNat 0) kk) 2 (t + 1) L') t L n x (g, s)).2 → DR (dvL (fun L' => dvR (dvF (fun dk => sp_WS dk fr pop nd ni sg ln 0) (fun dk => sp_S dk fr nd ni + sg * ln) it (fun t => rf fr nd t nd.toNat 0) kk) 2 (t + 1) L') t L n x (g, s)).2 → MS M' (dvL (fun L' => dvR (dvF (fun dk => sp_WS dk fr pop nd ni sg ln 0) (fun dk => sp_S dk fr nd ni + sg * ln) it (fun t => rf fr nd t nd.toNat 0) kk) 2 (t + 1) L') t L n x (g, s)).2.2.2.2.2 fr pop bnd nd ni sg ln → post (.inr none) M'), bc_W G RX9 cX9_divide 7 none 14 0 0 111 [some (vR G 33 0), some (vI t), some (vI kk), some (vI L), some (vI x), none, none] [] Mc post := by
  intro n
  induction n with
  | zero =>
    intro x g s Mc h1 h2 hgt hS hR hms k
    have hni := hms.1.2.1
    have hnd := hms.1.1
    have hgl := hG.2.2
    refine wp_iload eX9_divide_111 rfl ?_
    refine wp_iload_n eX9_divide_113 rfl ?_
    refine wp_iload_n eX9_divide_114 rfl ?_
    refine wp_iconst eX9_divide_115 ?_
    refine wp_isub eX9_divide_116 ?_
    refine wp_iload_n eX9_divide_117 rfl ?_
    refine wp_isub eX9_divide_118 ?_
    refine wp_isub eX9_divide_119 ?_
    refine wp_icmp_gt eX9_divide_120 (fun c120 => ?_) (fun c120 => ?_)
    · refine wp_return eX9_divide_149 ?_
      exact k Mc hS hR hms
    · omega
  | succ n ih =>
    intro x g s Mc h1 h2 hgt hS hR hms k
    have hni := hms.1.2.1
    have hnd := hms.1.1
    have hgl := hG.2.2
    refine wp_iload eX9_divide_111 rfl ?_
    refine wp_iload_n eX9_divide_113 rfl ?_
    refine wp_iload_n eX9_divide_114 rfl ?_
    refine wp_iconst eX9_divide_115 ?_
    refine wp_isub eX9_divide_116 ?_
    refine wp_iload_n eX9_divide_117 rfl ?_
    refine wp_isub eX9_divide_118 ?_
    refine wp_isub eX9_divide_119 ?_
    refine wp_icmp_gt eX9_divide_120 (fun c120 => ?_) (fun c120 => ?_)
    · omega
    · refine wp_aload_n eX9_divide_123 rfl ?_
      refine gf_X9_50 eX9_divide_124 ?_
      refine wp_iload_n eX9_divide_127 rfl ?_
      refine wp_iload eX9_divide_128 rfl ?_
      refine as_46 eX9_divide_130 ?_
      refine wp_aload_n eX9_divide_131 rfl ?_
      refine wp_iload_n eX9_divide_132 rfl ?_
      refine wp_iconst eX9_divide_133 ?_
      refine wp_iadd eX9_divide_134 ?_
      refine wp_iload_n eX9_divide_135 rfl ?_
      refine wp_iload_n eX9_divide_136 rfl ?_
      refine wp_iload eX9_divide_137 rfl ?_
      refine wp_isub eX9_divide_139 ?_
      refine c_X9_335 eX9_divide_140 (ct_dv2 hkk eit hit (by omega) (by omega) (hG.c ht (fun q hq => hgt q hq) |>.st ht (x := x) (by omega) (by omega)) (hS.sz (t := t) (x := x)) hR (up46_ms hms (by decide) (by decide)) (fun M1 hS1 hR1 hms1 => ?_))
      refine inc_4 eX9_divide_143 ?_
      refine wp_goto eX9_divide_146 ?_
      exact ih (x + 1) _ _ M1 (by omega) (by omega) (fun q hq => by rw [dvR_lt _ _ _ _ q (by omega)]; show bc_u g t x q = g0 q; rw [u_ne (by omega)]; exact hgt q hq) hS1 hR1 hms1 k
set_option maxHeartbeats 1000000 in
theorem ct_dv3 {G : bc_G} {M : bc_M} {post : bc_R → bc_M → Prop} {fr pop bnd : Int → Int} {nd ni sg ln kk : Int} {it : Int → Int} {M0 : bc_M} (hkk : 1 ≤ kk ∧ kk ≤ nd) (eit : M0 45 0 = it) (hit : ∀ p, 0 ≤ p → p < ni → 0 ≤ it p ∧ it p < ni) {t L : Int} (hm : t + 4 = kk) (ht : 0 ≤ t) {g : Int → Int} {s : Bool × Int × Int × (Int → Int) × (Int → Int)} (hG : DG kk ni t L g) (hS : DS M0 M g s) (hR : DR s) (hms : MS M s.2.2.2.2 fr pop bnd nd ni sg ln) (k : ∀ M' : bc_M, DS M0 M' (dvR (dvF (fun dk => sp_WS dk fr pop nd ni sg ln 0) (fun dk => sp_S dk fr nd ni + sg * ln) it (fun t => rf fr nd t nd.toNat 0) kk) 3 t L (g, s)).1 (dvR (dvF (fun dk => sp_WS dk fr pop nd ni sg ln 0) (fun dk => sp_S dk fr nd ni + sg * ln) it (fun t => rf fr nd t nd.toNat 0) kk) 3 t L (g, s)).2 → DR (dvR (dvF (fun dk => sp_WS dk fr pop nd ni sg ln 0) (fun dk => sp_S dk fr nd ni + sg * ln) it (fun t => rf fr nd t nd.toNat 0) kk) 3 t L (g, s)).2 → MS M' (dvR (dvF (fun dk => sp_WS dk fr pop nd ni sg ln 0) (fun dk => sp_S dk fr nd ni + sg * ln) it (fun t => rf fr nd t nd.toNat 0) kk) 3 t L (g, s)).2.2.2.2.2 fr pop bnd nd ni sg ln → post (.inr none) M') : bc_Call G yX9_divide cX9_divide 7 none 14 0 [vR G 33 0, vI t, vI kk, vI L] M post := by
  have hni := hms.1.2.1
  have hnd := hms.1.1
  have hgl := hG.2.2
  have hgs := hG.2.1
  have hL16 : L ≤ 16 := by
    have := sp_sum_nn hG.1 t.toNat (by omega)
    omega
  have hr9 : dvR (dvF (fun dk => sp_WS dk fr pop nd ni sg ln 0) (fun dk => sp_S dk fr nd ni + sg * ln) it (fun t => rf fr nd t nd.toNat 0) kk) 3 t L (g, s) = dvL (fun L' => dvR (dvF (fun dk => sp_WS dk fr pop nd ni sg ln 0) (fun dk => sp_S dk fr nd ni + sg * ln) it (fun t => rf fr nd t nd.toNat 0) kk) 2 (t + 1) L') t L (L - 3).toNat 1 (g, s) := by
    show dvL (fun L' => dvR (dvF (fun dk => sp_WS dk fr pop nd ni sg ln 0) (fun dk => sp_S dk fr nd ni + sg * ln) it (fun t => rf fr nd t nd.toNat 0) kk) 2 (t + 1) L') t L (L - (((2 : Nat) : Int) + 1)).toNat 1 (g, s) = _
    congr 1
  refine bc_enter (L := [some (vR G 33 0), some (vI t), some (vI kk), some (vI L), none, none, none]) (by decide) rfl rfl ?_
  refine wp_iload_n eX9_divide_0 rfl ?_
  refine wp_iload_n eX9_divide_1 rfl ?_
  refine wp_iconst eX9_divide_2 ?_
  refine wp_isub eX9_divide_3 ?_
  refine wp_icmp_ne eX9_divide_4 (fun c4 => ?_) (fun c4 => ?_)
  · refine wp_iconst eX9_divide_108 ?_
    refine ist_4 eX9_divide_109 ?_
    exact lp_dv3 hkk eit hit hm ht hG (by omega) hL16 (L - 3).toNat 1 g s M (by omega) (by omega) (fun q hq => rfl) hS hR hms (fun M' a b c => k M' (by rw [hr9]; exact a) (by rw [hr9]; exact b) (by rw [hr9]; exact c))
  · omega
