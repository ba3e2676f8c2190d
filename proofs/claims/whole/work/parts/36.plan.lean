/-- the same settings and programs -/
def sameSP (M' M : bc_M) (z : Int) : Prop := (∀ k, (k = 6 ∨ k = 7 ∨ k = 8 ∨ k = 9 ∨ k = 10) → M' k z = M k z) ∧ ∀ k q, (k = 17 ∨ k = 18 ∨ k = 19 ∨ k = 21) → M' k q = M k q
theorem cl_new_cong {M' M : bc_M} {a b z i : Int} (h : cliEq M' a M b) (hs : sameSP M' M z) : cl_new M' a z i = cl_new M b z i := by
  have h0 := h.2.2 0 (by decide) (by decide)
  have h1 := h.2.2 1 (by decide) (by decide)
  have h7 := h.2.2 7 (by decide) (by decide)
  have hl : ∀ x y, cl_less M' a z x y = cl_less M b z x y := fun x y => by
    unfold cl_less
    rw [h.1, h.2.1, h1, hs.1 7 (by decide), hs.1 8 (by decide), hs.1 9 (by decide)]
  have hv : ∀ (s : Int) (n : Nat) (q r : Int), cl_vic M' a z s n q r = cl_vic M b z s n q r := by
    intro s n
    induction n with
    | zero => intro q r; rfl
    | succ n ih => intro q r; simp only [cl_vic, hl, ih]
  unfold cl_new cl_rem cl_set
  rw [h0, h7, hs.1 6 (by decide), hv]
theorem askM_cong {M' M : bc_M} {a b z j i : Int} (h : cliEq M' a M b) (hs : sameSP M' M z) : cliEq (askM M' a z j i) a (askM M b z j i) b ∧ askR M' a j i = askR M b j i := by
  have hf := h.2.2
  have h2 := hf 2 (by decide) (by decide)
  have h7 := hf 7 (by decide) (by decide)
  have w := fun t => pg_wait_fr (j := j) (i := i) (t := t) hs.2
  have c1 : cliEq (ask1 M' a i) a (ask1 M b i) b := by
    refine ⟨?_, ?_, fun f x y => ?_⟩
    · rw [ask1_13, ask1_13, h.1]
    · rw [ask1_14, ask1_14, h.2.1, hf 8 (by decide) (by decide)]
    · rw [ask1_12, ask1_12]
      by_cases h8 : f = 8
      · subst h8; rw [u_at, u_at, hf 8 (by decide) (by decide)]
      · rw [u_ne h8, u_ne h8]; exact hf f x y
  have s1 : sameSP (ask1 M' a i) (ask1 M b i) z := ⟨fun k hk => by rw [ask1_o (by omega), ask1_o (by omega)]; exact hs.1 k hk, fun k q hk => by rw [ask1_o (by omega), ask1_o (by omega)]; exact hs.2 k q hk⟩
  have c5 : ∀ w l, cliEq (ask5 (ask1 M' a i) a w l) a (ask5 (ask1 M b i) b w l) b := fun w l => by
    refine ⟨?_, ?_, fun f x y => ?_⟩
    · rw [ask5_o (by decide), ask5_o (by decide)]; exact c1.1
    · rw [ask5_o (by decide), ask5_o (by decide)]; exact c1.2.1
    · unfold ask5
      simp only [up_v, c1.2.2 f x y, c1.2.2 2 (by decide) (by decide), c1.2.2 4 (by decide) (by decide), c1.2.2 5 (by decide) (by decide), c1.2.2 6 (by decide) (by decide)]
  have s5 : ∀ w l, sameSP (ask5 (ask1 M' a i) a w l) (ask5 (ask1 M b i) b w l) z := fun w l => ⟨fun k hk => by rw [ask5_o (by omega), ask5_o (by omega)]; exact s1.1 k hk, fun k q hk => by rw [ask5_o (by omega), ask5_o (by omega)]; exact s1.2 k q hk⟩
  refine ⟨?_, ?_⟩
  · unfold askM
    rw [h7, h2, (w _).1, (w _).2]
    split
    · refine ⟨?_, ?_, fun f x y => ?_⟩
      · rw [up_kne (by decide), up_kne (by decide)]; exact c1.1
      · rw [up_kne (by decide), up_kne (by decide)]; exact c1.2.1
      · rw [up_v, up_v, hf 3 (by decide) (by decide), c1.2.2 f x y]
    · refine ⟨?_, ?_, fun f x y => ?_⟩
      · rw [up_kne (by decide), up_kne (by decide)]; exact (c5 _ _).1
      · rw [up_kne (by decide), up_kne (by decide)]; exact (c5 _ _).2.1
      · rw [up_v, up_v, cl_new_cong (c5 _ _) (s5 _ _), (c5 _ _).2.2 f x y]
  · unfold askR
    rw [h7, h2, (w _).1]
/-- the memory when client c has asked for n items of the order from place q on -/
def taM (c z j : Int) (g : Int → Int) : Nat → Int → bc_M → bc_M
  | 0, _, M => M
  | n + 1, q, M => taM c z j g n (q + 1) (askM M c z j (g q))
theorem taM_fr {c z j : Int} {g : Int → Int} : ∀ (n : Nat) (q : Int) (M : bc_M), Fr (CLP c) M (taM c z j g n q M)
  | 0, _, _ => Fr.rf
  | n + 1, q, M => by simp only [taM]; exact Fr.tr askM_fr (taM_fr n (q + 1) _)
theorem sameSP_fr {M M' : bc_M} {a z : Int} (h : Fr (CLP a) M M') : sameSP M' M z := ⟨fun k hk => h k z (by unfold CLP; omega), fun k q hk => h k q (by unfold CLP; omega)⟩
theorem CN_cong {M' M : bc_M} {a b n : Int} (h : cliEq M' a M b) (hv : CN M b n) : CN M' a n := by
  unfold CN at hv ⊢
  rw [h.1, h.2.1, h.2.2 0 (by decide) (by decide), h.2.2 1 (by decide) (by decide), h.2.2 2 (by decide) (by decide), h.2.2 7 (by decide) (by decide), h.2.2 8 (by decide) (by decide)]
  exact hv
theorem SM_same {M' M : bc_M} {z : Int} (h : sameSP M' M z) (hs : SM M z) : SM M' z := SM_fr hs h.1
theorem PV_same {M' M : bc_M} {z j ni : Int} (h : sameSP M' M z) (hs : PV M j ni) : PV M' j ni := PV_fr hs h.2
theorem sameSP_tr {M1 M2 M3 : bc_M} {z : Int} (h : sameSP M1 M2 z) (h2 : sameSP M2 M3 z) : sameSP M1 M3 z := ⟨fun k hk => (h.1 k hk).trans (h2.1 k hk), fun k q hk => (h.2 k q hk).trans (h2.2 k q hk)⟩
theorem sameSP_sy {M1 M2 : bc_M} {z : Int} (h : sameSP M1 M2 z) : sameSP M2 M1 z := ⟨fun k hk => (h.1 k hk).symm, fun k q hk => (h.2 k q hk).symm⟩
theorem lp_ta {G : bc_G} {post : bc_R → bc_M → Prop} {c z j ni cnt : Int} {g : Int → Int} (hc : 0 ≤ c ∧ c < 49) (hz : 0 ≤ z ∧ z < 13) (hj : 0 ≤ j ∧ j < 2) (hcn : 0 ≤ cnt ∧ cnt ≤ 5) {M0 : bc_M} (hs : SM M0 z) (hp : PV M0 j ni) (hni : M0 6 z 3 = ni) (e30 : M0 30 0 2 = cnt) (e32 : M0 32 0 = g) (hg : ∀ q, 0 ≤ q → q < cnt → 0 ≤ g q ∧ g q < ni) : ∀ (n : Nat) (q m : Int) (Mc Mv : bc_M) (h1 : q + n = cnt) (h2 : 0 ≤ q) (hE : cliEq Mc 49 Mv c) (hF : Fr (CLP 49) M0 Mc) (s3 : sameSP Mv M0 z) (hv : CN Mv c m) (hm : 0 ≤ m ∧ m + n ≤ 2900) (k : ∀ M' : bc_M, Fr (CLP 49) M0 M' → post (.inr (some (vI (taM c z j g n q Mv 12 c 2)))) M'), bc_W G RX3 cX3_timeAfter 5 (some .int) 7 0 0 11 [some (vR G 30 0), some (vR G 12 c), some (vR G 6 z), some (vR G 17 j), some (vI q)] [] Mc post := by
  intro n
  induction n with
  | zero =>
    intro q m Mc Mv h1 h2 hE hF s3 hv hm k
    have s2 : sameSP Mc M0 z := sameSP_fr hF
    have e30 : Mc 30 0 2 = cnt := by rw [hF 30 0 (by unfold CLP; omega)]; exact e30
    have e32 : Mc 32 0 = g := by rw [hF 32 0 (by unfold CLP; omega)]; exact e32
    refine wp_iload eX3_timeAfter_11 rfl ?_
    refine wp_aload_n eX3_timeAfter_13 rfl ?_
    refine gf_X3_19 eX3_timeAfter_14 ?_
    rw [e30]
    refine wp_icmp_ge eX3_timeAfter_17 (fun c17 => ?_) (fun c17 => ?_)
    · refine wp_aload_n eX3_timeAfter_43 rfl ?_
      refine gf_X3_28 eX3_timeAfter_44 ?_
      refine gf_X3_67 eX3_timeAfter_47 ?_
      refine wp_ireturn eX3_timeAfter_50 ?_
      simp only [taM] at k
      have e2 := hE.2.2 2 (by decide) (by decide)
      rw [e2]
      exact k _ hF
    · omega
  | succ n ih =>
    intro q m Mc Mv h1 h2 hE hF s3 hv hm k
    have s2 : sameSP Mc M0 z := sameSP_fr hF
    have e30 : Mc 30 0 2 = cnt := by rw [hF 30 0 (by unfold CLP; omega)]; exact e30
    have e32 : Mc 32 0 = g := by rw [hF 32 0 (by unfold CLP; omega)]; exact e32
    refine wp_iload eX3_timeAfter_11 rfl ?_
    refine wp_aload_n eX3_timeAfter_13 rfl ?_
    refine gf_X3_19 eX3_timeAfter_14 ?_
    rw [e30]
    refine wp_icmp_ge eX3_timeAfter_17 (fun c17 => ?_) (fun c17 => ?_)
    · omega
    · have hg1 := hg q (by omega) (by omega)
      refine wp_aload_n eX3_timeAfter_20 rfl ?_
      refine gf_X3_28 eX3_timeAfter_21 ?_
      refine wp_aload_n eX3_timeAfter_24 rfl ?_
      refine gf_X3_22 eX3_timeAfter_25 ?_
      refine wp_iload eX3_timeAfter_28 rfl ?_
      refine al_32 eX3_timeAfter_30 ?_
      rw [e32]
      refine wp_aload_n eX3_timeAfter_31 rfl ?_
      refine wp_aload_n eX3_timeAfter_32 rfl ?_
      refine c_X3_63 eX3_timeAfter_33 (ct_ask (c := 49) (by omega) hz hj (SM_same s2 hs) (PV_same s2 hp) (by rw [s2.1 6 (by decide)]; exact hni) (CN_cong hE hv) (by omega) (by omega) ?_)
      have hA := askM_cong (j := j) (i := g q) hE (sameSP_tr s2 (sameSP_sy s3))
      have hv2 := askM_cn (z := z) (j := j) (ni := ni) (i := g q) (SM_same s3 hs) (PV_same s3 hp) (by rw [s3.1 6 (by decide)]; exact hni) hv (by omega) hg1
      have hF2 := Fr.tr hF (askM_fr (M := Mc) (c := 49) (z := z) (j := j) (i := g q))
      have hFv := askM_fr (M := Mv) (c := c) (z := z) (j := j) (i := g q)
      refine wp_pop eX3_timeAfter_36 ?_
      refine inc_4 eX3_timeAfter_37 ?_
      refine wp_goto eX3_timeAfter_40 ?_
      simp only [taM] at k
      exact ih (q + 1) (m + 1) _ _ (by omega) (by omega) hA.1 hF2 (sameSP_tr (sameSP_fr hFv) s3) hv2 (by omega) k
theorem ct_timeAfter {G : bc_G} {M : bc_M} {post : bc_R → bc_M → Prop} {c z j ni cnt : Int} {g : Int → Int} (hc : 0 ≤ c ∧ c < 49) (hz : 0 ≤ z ∧ z < 13) (hj : 0 ≤ j ∧ j < 2) (hcn : 0 ≤ cnt ∧ cnt ≤ 5) (hg : ∀ q, 0 ≤ q → q < cnt → 0 ≤ g q ∧ g q < ni) {m : Int} (hs : SM M z) (hp : PV M j ni) (hni : M 6 z 3 = ni) (e30 : M 30 0 2 = cnt) (e32 : M 32 0 = g) (hv : CN M c m) (hm : 0 ≤ m ∧ m ≤ 2800) (k : ∀ M' : bc_M, Fr (CLP 49) M M' → post (.inr (some (vI (taM c z j g cnt.toNat 0 M 12 c 2)))) M') : bc_Call G yX3_timeAfter cX3_timeAfter 5 (some .int) 7 0 [vR G 30 0, vR G 12 c, vR G 6 z, vR G 17 j] M post := by
  refine bc_enter (L := [some (vR G 30 0), some (vR G 12 c), some (vR G 6 z), some (vR G 17 j), none]) (by decide) rfl rfl ?_
  refine wp_aload_n eX3_timeAfter_0 rfl ?_
  refine gf_X3_28 eX3_timeAfter_1 ?_
  refine wp_aload_n eX3_timeAfter_4 rfl ?_
  refine c_X3_59 eX3_timeAfter_5 (ct_cliCopy (a := 49) (b := c) (by omega) (by omega) (by omega) (fun M1 hF hE => ?_))
  refine wp_iconst eX3_timeAfter_8 ?_
  refine ist_4 eX3_timeAfter_9 ?_
  exact lp_ta hc hz hj hcn hs hp hni e30 e32 hg cnt.toNat 0 m M1 M (by omega) (by omega) hE hF (sameSP_fr (a := 0) Fr.rf) hv (by omega) k
