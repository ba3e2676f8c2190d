theorem bs_cnt_sub {s i : Int} (hs : 0 ≤ s) (hi : 0 ≤ i) (hb : bs s i = true) : ∀ n : Nat, bs_cnt (s - ((2 ^ i.toNat : Nat) : Int)) n = bs_cnt s n - (if i < n then 1 else 0)
  | 0 => by simp only [bs_cnt]; rw [if_neg (by omega)]; omega
  | n + 1 => by
    simp only [bs_cnt]
    rw [bs_cnt_sub hs hi hb n, bs_sub_in hs hi (by omega) hb]
    by_cases e : (n : Int) = i
    · rw [e, hb, decide_eq_true (rfl : i = i), if_neg (show ¬ (true && !true) = true by decide), if_pos rfl, if_neg (by omega), if_pos (by omega)]
      omega
    · rw [decide_eq_false e, Bool.not_false, Bool.and_true]
      by_cases f : i < (n : Int)
      · rw [if_pos f, if_pos (show i < ((n + 1 : Nat) : Int) by omega)]; omega
      · rw [if_neg f, if_neg (show ¬ i < ((n + 1 : Nat) : Int) by omega)]; omega
theorem qG_out {cap pol ni : Int} {pop dk fr : Int → Int} {W L : Int → Int → Int} {g : Int → Int} {i f : Int} (hi : 0 ≤ i ∧ i < 16) (hf : f < 0 ∨ 38 ≤ f) : qG cap pol ni pop dk fr W L g i f = g f := by
  unfold qG
  split
  · rw [u_ne (by omega), q1_v (by omega) (by omega)]
  · rw [u_ne (by omega), u_ne (by omega), u_ne (by omega), u_ne (by omega), u_ne (by omega), q1_v (by omega) (by omega)]
/-- plans: (planned, its end, its items) -/
def ptT (s : Bool × Int × (Int → Int)) (g : Int → Int) (dp e : Int) : Bool × Int × (Int → Int) := if s.1 = false ∨ e < s.2.1 then (true, e, cpF s.2.2 g 0 dp) else s
def ptL (D : Int → (Int → Int) × (Bool × Int × (Int → Int)) → (Int → Int) × (Bool × Int × (Int → Int))) (left dp : Int) : Nat → Int → (Int → Int) × (Bool × Int × (Int → Int)) → (Int → Int) × (Bool × Int × (Int → Int))
  | 0, _, s => s
  | n + 1, i, s => ptL D left dp n (i + 1) (if bs left i = true then D i (bc_u s.1 dp i, s.2) else s)
def ptR (Q : (Int → Int) → Int → (Int → Int)) (ni : Int) : Nat → Int → Int → (Int → Int) → (Int → Int) × (Bool × Int × (Int → Int)) → (Int → Int) × (Bool × Int × (Int → Int))
  | 0, _, dp, h => fun s => (s.1, ptT s.2 s.1 dp (h 0))
  | m + 1, left, dp, h => fun s => ptL (fun i => ptR Q ni m (left - ((2 ^ i.toNat : Nat) : Int)) (dp + 1) (Q h i)) left dp ni.toNat 0 s
/-- what trying leaves -/
def TP (M0 Mc : bc_M) (dp : Int) : Prop := Fr (fun k' j' => (k' = 33 ∨ k' = 40 ∨ k' = 43 ∨ k' = 44 ∨ k' = 49 ∨ k' = 50) ∧ j' = 0) M0 Mc ∧ (∀ f, f ≠ 30 → f ≠ 40 → f ≠ 41 → Mc 33 0 f = M0 33 0 f) ∧ ∀ q, q < 206 * dp → Mc 40 0 q = M0 40 0 q
def TV (Mc : bc_M) (s : (Int → Int) × (Bool × Int × (Int → Int))) : Prop := (Mc 33 0 41 = (if s.2.1 = true then 1 else 0) ∧ Mc 33 0 40 = s.2.2.1 ∧ Mc 50 0 = s.2.2.2) ∧ Mc 49 0 = s.1 ∧ (s.2.1 = true → 0 ≤ s.2.2.1 ∧ s.2.2.1 ≤ 100000000)
theorem TP.tr {M M1 M2 : bc_M} {dp dp' : Int} (h : TP M M1 dp) (h2 : TP M1 M2 dp') (hd : dp ≤ dp') : TP M M2 dp := ⟨Fr.tr h.1 h2.1, fun f a b c => (h2.2.1 f a b c).trans (h.2.1 f a b c), fun q hq => (h2.2.2 q (by omega)).trans (h.2.2 q hq)⟩
theorem TP.ms {M M' : bc_M} {dp : Int} {dk fr pop bnd : Int → Int} {nd ni sg ln : Int} (h : TP M M' dp) (hs : MS M dk fr pop bnd nd ni sg ln) : MS M' dk fr pop bnd nd ni sg ln := by
  unfold MS at hs ⊢
  rw [h.1 34 0 (by omega), h.2.1 5 (by decide) (by decide) (by decide), h.2.1 6 (by decide) (by decide) (by decide)]
  exact hs
theorem TP.ml {M M' : bc_M} {dp : Int} {dk fr : Int → Int} {nd ni sg ln : Int} (h : TP M M' dp) (hs : ML M dk fr nd ni sg ln) : ML M' dk fr nd ni sg ln := by
  unfold ML at hs ⊢
  rw [h.1 41 0 (by omega), h.1 42 0 (by omega), h.2.1 25 (by decide) (by decide) (by decide), h.2.1 27 (by decide) (by decide) (by decide)]
  exact hs
theorem lp_ptCp {G : bc_G} {M : bc_M} {post : bc_R → bc_M → Prop} {c left dp e : Int} {g pl : Int → Int} (eg : M 49 0 = g) (hdp : 0 ≤ dp ∧ dp ≤ 5) : ∀ (n : Nat) (v : Int) (h1 : v + n = dp) (h2 : 0 ≤ v) (k : post (.inr none) (bc_row M 50 0 (cpF pl g 0 dp))), bc_W G RX9 cX9_tries 6 none 5 0 0 42 [some (vR G 33 0), some (vI c), some (vI left), some (vI dp), some (vI e), some (vI v)] [] (bc_row M 50 0 (cpF pl g 0 v)) post := by
  intro n
  induction n with
  | zero =>
    intro v h1 h2 k
    refine wp_iload eX9_tries_42 rfl ?_
    refine wp_iload_n eX9_tries_44 rfl ?_
    refine wp_icmp_ge eX9_tries_45 (fun c45 => ?_) (fun c45 => ?_)
    · have hv : v = dp := by omega
      subst hv
      refine wp_return eX9_tries_68 ?_
      exact k
    · omega
  | succ n ih =>
    intro v h1 h2 k
    refine wp_iload eX9_tries_42 rfl ?_
    refine wp_iload_n eX9_tries_44 rfl ?_
    refine wp_icmp_ge eX9_tries_45 (fun c45 => ?_) (fun c45 => ?_)
    · omega
    · refine wp_aload_n eX9_tries_48 rfl ?_
      refine gf_X9_62 eX9_tries_49 ?_
      refine wp_iload eX9_tries_52 rfl ?_
      refine wp_aload_n eX9_tries_54 rfl ?_
      refine gf_X9_59 eX9_tries_55 ?_
      refine wp_iload eX9_tries_58 rfl ?_
      refine al_49 eX9_tries_60 ?_
      rw [row_kne (by decide), eg]
      refine as_50 eX9_tries_61 ?_
      refine inc_5 eX9_tries_62 ?_
      refine wp_goto eX9_tries_65 ?_
      rw [up_row]
      have e9 := cpF_st (g := pl) (h := g) (b := 0) (n := v) h2
      rw [Int.zero_add] at e9
      rw [e9]
      exact ih (v + 1) (by omega) (by omega) k
set_option maxHeartbeats 1000000 in
theorem ct_tr0 {G : bc_G} {M : bc_M} {post : bc_R → bc_M → Prop} {dk fr pop bnd : Int → Int} {nd ni sg ln c n cap pol : Int} (hc : 0 ≤ c ∧ c < 4) {left dp : Int} (hl : 0 ≤ left ∧ left < 65536) (hcnt : bs_cnt left 16 = 0) (hdp : 0 ≤ dp ∧ dp + 0 ≤ 5) (hn : 0 ≤ n ∧ n + 0 ≤ 5000) (hs : MS M dk fr pop bnd nd ni sg ln) (hML : ML M dk fr nd ni sg ln) (hcap : M 36 0 c = cap ∧ 0 ≤ cap ∧ cap ≤ 4) (hpol : M 37 0 c = pol ∧ 0 ≤ pol ∧ pol ≤ 2) (hq : QI (mc M c) ni n) {s : (Int → Int) × (Bool × Int × (Int → Int))} (hV : TV M s) (k : ∀ M' : bc_M, TP M M' dp → TV M' (ptR (qG cap pol ni pop dk fr (sW dk fr nd ni sg ln) (sL dk fr nd ni sg ln)) ni 0 left dp (mc M c) s) → post (.inr none) M') : bc_Call G yX9_tries cX9_tries 6 none 5 0 [vR G 33 0, vI c, vI left, vI dp] M post := by
  have hni := hs.1.2.1
  have hl0 : left = 0 := by
    apply Decidable.byContradiction
    intro h9
    have := bs_cnt_pos (s := left) (by omega) hl.2
    omega
  refine bc_enter (L := [some (vR G 33 0), some (vI c), some (vI left), some (vI dp), none, none]) (by decide) rfl rfl ?_
  refine wp_iload_n eX9_tries_0 rfl ?_
  refine wp_if_ne eX9_tries_1 (fun c1 => ?_) (fun c1 => ?_)
  · omega
  · refine wp_aload_n eX9_tries_4 rfl ?_
    refine wp_iload_n eX9_tries_5 rfl ?_
    refine wp_iconst eX9_tries_6 ?_
    refine c_X9_257 eX9_tries_7 (ct_ofClient hc (by omega) ?_)
    rw [show M 34 0 (54 + 38 * c + 0) = mc M c 0 from rfl]
    have hq0 := hq.1
    refine ist_4 eX9_tries_10 ?_
    refine wp_aload_n eX9_tries_12 rfl ?_
    refine gf_X9_371 eX9_tries_13 ?_
    rw [hV.1.1]
    refine wp_if_eq eX9_tries_16 (fun c16 => ?_) (fun c16 => ?_) (by split <;> omega)
    · have hs1 : s.2.1 = false := by
        cases h : s.2.1
        · rfl
        · rw [h] at c16; exact absurd c16 (by decide)
      have hk9 : ptR (qG cap pol ni pop dk fr (sW dk fr nd ni sg ln) (sL dk fr nd ni sg ln)) ni 0 left dp (mc M c) s = (s.1, (true, mc M c 0, cpF s.2.2.2 s.1 0 dp)) := by
        simp only [ptR, ptT]
        rw [if_pos (Or.inl hs1)]
      rw [hk9] at k
      refine wp_aload_n eX9_tries_28 rfl ?_
      refine wp_iconst eX9_tries_29 ?_
      refine pf_X9_371 eX9_tries_30 (by decide) ?_
      refine wp_aload_n eX9_tries_33 rfl ?_
      refine wp_iload eX9_tries_34 rfl ?_
      refine pf_X9_374 eX9_tries_36 ?_
      refine wp_iconst eX9_tries_39 ?_
      refine ist_5 eX9_tries_40 ?_
      have eX : bc_up (bc_up M 33 0 41 1) 33 0 40 (mc M c 0) = bc_row (bc_up (bc_up M 33 0 41 1) 33 0 40 (mc M c 0)) 50 0 (cpF s.2.2.2 s.1 0 0) := by
        have e9 : (bc_up (bc_up M 33 0 41 1) 33 0 40 (mc M c 0)) 50 0 = s.2.2.2 := by rw [up_kne (by decide), up_kne (by decide), hV.1.2.2]
        rw [cpF0, ← e9]
        exact row_self.symm
      rw [eX]
      refine lp_ptCp (by rw [up_kne (by decide), up_kne (by decide)]; exact hV.2.1) (by omega) dp.toNat 0 (by omega) (by omega) ?_
      refine k _ ⟨Fr.tr (Fr.tr (Fr.up ⟨Or.inl rfl, rfl⟩) (Fr.up ⟨Or.inl rfl, rfl⟩)) (row_fr.mono (fun k9 j9 q => by unfold at1 at q; exact ⟨by omega, q.2⟩)), fun f a b d => ?_, fun q _ => ?_⟩ ⟨⟨?_, ?_, row_at⟩, ?_, fun _ => (show 0 ≤ mc M c 0 ∧ mc M c 0 ≤ 100000000 by omega)⟩
      · rw [row_kne (by decide), up_v, if_neg b, up_v, if_neg d]
      · rw [row_kne (by decide), up_kne (by decide), up_kne (by decide)]
      · exact Eq.trans (b := 1) (by rw [row_kne (by decide), up_v, if_neg (by decide), up_v, if_pos rfl]) rfl
      · rw [row_kne (by decide), up_v, if_pos rfl]
      · rw [row_kne (by decide), up_kne (by decide), up_kne (by decide)]; exact hV.2.1
    · have hs1 : s.2.1 = true := by
        cases h : s.2.1
        · rw [h] at c16; exact absurd rfl c16
        · rfl
      refine wp_iload eX9_tries_19 rfl ?_
      refine wp_aload_n eX9_tries_21 rfl ?_
      refine gf_X9_374 eX9_tries_22 ?_
      rw [hV.1.2.1]
      have hpr := hV.2.2 hs1
      refine wp_icmp_ge eX9_tries_25 (fun c25 => ?_) (fun c25 => ?_)
      · have hk9 : ptR (qG cap pol ni pop dk fr (sW dk fr nd ni sg ln) (sL dk fr nd ni sg ln)) ni 0 left dp (mc M c) s = (s.1, s.2) := by
          simp only [ptR, ptT]
          rw [if_neg (fun q => q.elim (fun z => by rw [hs1] at z; exact absurd z (by decide)) (fun z => by omega))]
        rw [hk9] at k
        refine wp_return eX9_tries_68 ?_
        exact k M ⟨Fr.rf, fun f _ _ _ => rfl, fun _ _ => rfl⟩ hV
      · have hk9 : ptR (qG cap pol ni pop dk fr (sW dk fr nd ni sg ln) (sL dk fr nd ni sg ln)) ni 0 left dp (mc M c) s = (s.1, (true, mc M c 0, cpF s.2.2.2 s.1 0 dp)) := by
          simp only [ptR, ptT]
          rw [if_pos (Or.inr (by omega))]
        rw [hk9] at k
        refine wp_aload_n eX9_tries_28 rfl ?_
        refine wp_iconst eX9_tries_29 ?_
        refine pf_X9_371 eX9_tries_30 (by decide) ?_
        refine wp_aload_n eX9_tries_33 rfl ?_
        refine wp_iload eX9_tries_34 rfl ?_
        refine pf_X9_374 eX9_tries_36 ?_
        refine wp_iconst eX9_tries_39 ?_
        refine ist_5 eX9_tries_40 ?_
        have eX : bc_up (bc_up M 33 0 41 1) 33 0 40 (mc M c 0) = bc_row (bc_up (bc_up M 33 0 41 1) 33 0 40 (mc M c 0)) 50 0 (cpF s.2.2.2 s.1 0 0) := by
          have e9 : (bc_up (bc_up M 33 0 41 1) 33 0 40 (mc M c 0)) 50 0 = s.2.2.2 := by rw [up_kne (by decide), up_kne (by decide), hV.1.2.2]
          rw [cpF0, ← e9]
          exact row_self.symm
        rw [eX]
        refine lp_ptCp (by rw [up_kne (by decide), up_kne (by decide)]; exact hV.2.1) (by omega) dp.toNat 0 (by omega) (by omega) ?_
        refine k _ ⟨Fr.tr (Fr.tr (Fr.up ⟨Or.inl rfl, rfl⟩) (Fr.up ⟨Or.inl rfl, rfl⟩)) (row_fr.mono (fun k9 j9 q => by unfold at1 at q; exact ⟨by omega, q.2⟩)), fun f a b d => ?_, fun q _ => ?_⟩ ⟨⟨?_, ?_, row_at⟩, ?_, fun _ => (show 0 ≤ mc M c 0 ∧ mc M c 0 ≤ 100000000 by omega)⟩
        · rw [row_kne (by decide), up_v, if_neg b, up_v, if_neg d]
        · rw [row_kne (by decide), up_kne (by decide), up_kne (by decide)]
        · exact Eq.trans (b := 1) (by rw [row_kne (by decide), up_v, if_neg (by decide), up_v, if_pos rfl]) rfl
        · rw [row_kne (by decide), up_v, if_pos rfl]
        · rw [row_kne (by decide), up_kne (by decide), up_kne (by decide)]; exact hV.2.1
set_option maxHeartbeats 2000000 in
theorem lp_tr1 {G : bc_G} {post : bc_R → bc_M → Prop} {dk fr pop bnd : Int → Int} {nd ni sg ln c n cap pol : Int} (hc : 0 ≤ c ∧ c < 4) {M0 : bc_M} {left dp : Int} (hl : 0 ≤ left ∧ left < 65536) (hcnt : bs_cnt left 16 = 1) (hdp : 0 ≤ dp ∧ dp + 1 ≤ 5) (hn : 0 ≤ n ∧ n + 1 ≤ 5000) (hs : MS M0 dk fr pop bnd nd ni sg ln) (hML : ML M0 dk fr nd ni sg ln) (hcap : M0 36 0 c = cap ∧ 0 ≤ cap ∧ cap ≤ 4) (hpol : M0 37 0 c = pol ∧ 0 ≤ pol ∧ pol ≤ 2) (hq : QI (mc M0 c) ni n) : ∀ (n9 : Nat) (i : Int) (s : (Int → Int) × (Bool × Int × (Int → Int))) (Mc : bc_M) (y : Option Value) (h1 : i + n9 = ni) (h2 : 0 ≤ i) (hT : TP M0 Mc dp) (hA : ∀ q, 0 ≤ q → q < 206 → Mc 40 0 (206 * dp + q) = M0 34 0 q) (hV : TV Mc s) (k : ∀ M' : bc_M, TP M0 M' dp → TV M' (ptL (fun i => ptR (qG cap pol ni pop dk fr (sW dk fr nd ni sg ln) (sL dk fr nd ni sg ln)) ni 0 (left - ((2 ^ i.toNat : Nat) : Int)) (dp + 1) ((qG cap pol ni pop dk fr (sW dk fr nd ni sg ln) (sL dk fr nd ni sg ln)) (mc M0 c) i)) left dp n9 i s) → post (.inr none) M'), bc_W G RX9 cX9_tries 6 none 6 0 0 77 [some (vR G 33 0), some (vI c), some (vI left), some (vI dp), some (vI i), y] [] Mc post := by
  intro n9
  induction n9 with
  | zero =>
    intro i s Mc y h1 h2 hT hA hV k
    have hni := hs.1.2.1
    have hmsc := hT.ms hs
    have hMLc := hT.ml hML
    have emc : mc Mc c = mc M0 c := by funext f; unfold mc; rw [hT.1 34 0 (by omega)]
    refine wp_iload eX9_tries_77 rfl ?_
    refine wp_aload_n eX9_tries_79 rfl ?_
    refine gf_X9_79 eX9_tries_80 ?_
    rw [hmsc.2.1.2]
    refine wp_icmp_ge eX9_tries_83 (fun c83 => ?_) (fun c83 => ?_)
    · simp only [ptL] at k
      refine wp_return eX9_tries_137 ?_
      exact k Mc hT hV
    · omega
  | succ n9 ih =>
    intro i s Mc y h1 h2 hT hA hV k
    have hni := hs.1.2.1
    have hmsc := hT.ms hs
    have hMLc := hT.ml hML
    have emc : mc Mc c = mc M0 c := by funext f; unfold mc; rw [hT.1 34 0 (by omega)]
    refine wp_iload eX9_tries_77 rfl ?_
    refine wp_aload_n eX9_tries_79 rfl ?_
    refine gf_X9_79 eX9_tries_80 ?_
    rw [hmsc.2.1.2]
    refine wp_icmp_ge eX9_tries_83 (fun c83 => ?_) (fun c83 => ?_)
    · omega
    · refine wp_iload_n eX9_tries_86 rfl ?_
      refine wp_iload eX9_tries_87 rfl ?_
      refine c_X9_211 eX9_tries_89 (ct_has ?_)
      refine wp_if_eq eX9_tries_92 (fun c92 => ?_) (fun c92 => ?_) (by split <;> omega)
      · have hb : ¬ bs left i = true := by
          intro h
          rw [h] at c92
          exact absurd c92 (by decide)
        simp only [ptL] at k
        rw [if_neg hb] at k
        refine inc_4 eX9_tries_131 ?_
        refine wp_goto eX9_tries_134 ?_
        first
        | exact ih (i + 1) _ _ _ (by omega) (by omega) hT3 hA3 hV3 k
        | exact ih (i + 1) s Mc _ (by omega) (by omega) hT hA hV k
      · have hb : bs left i = true := by
          cases h : bs left i
          · rw [h] at c92; exact absurd rfl c92
          · rfl
        simp only [ptL] at k
        rw [if_pos hb] at k
        refine wp_aload_n eX9_tries_95 rfl ?_
        refine wp_iload_n eX9_tries_96 rfl ?_
        refine wp_iload eX9_tries_97 rfl ?_
        refine c_X9_279 eX9_tries_99 (ct_requests1 hmsc hMLc hc (i := i) (by omega) ⟨by rw [hT.1 36 0 (by omega)]; exact hcap.1, hcap.2⟩ ⟨by rw [hT.1 37 0 (by omega)]; exact hpol.1, hpol.2⟩ (by rw [emc]; exact hq) (by omega) (fun M1 hRQ => ?_))
        rw [emc] at hRQ
        have hQ1 := QI.st (cap := cap) (pol := pol) (pop := pop) (W := sW dk fr nd ni sg ln) (L := sL dk fr nd ni sg ln) hs.1 hq (i := i) (by omega) (sW_rng hs.1 (by omega)).1 (sW_rng hs.1 (by omega)).2
        have e34 : M1 34 0 = cpF (M0 34 0) ((qG cap pol ni pop dk fr (sW dk fr nd ni sg ln) (sL dk fr nd ni sg ln)) (mc M0 c) i) (54 + 38 * c) 38 := by rw [hRQ.2.2.2, hT.1 34 0 (by omega)]
        have emc1 : mc (bc_up M1 49 0 dp i) c = (qG cap pol ni pop dk fr (sW dk fr nd ni sg ln) (sL dk fr nd ni sg ln)) (mc M0 c) i := by
          funext f
          unfold mc
          rw [up_kne (by decide), e34]
          unfold cpF
          by_cases hf : 54 + 38 * c ≤ 54 + 38 * c + f ∧ 54 + 38 * c + f < 54 + 38 * c + 38
          · rw [if_pos hf, show 54 + 38 * c + f - (54 + 38 * c) = f by omega]; rfl
          · rw [if_neg hf]
            exact (qG_out (g := mc M0 c) (by omega) (by omega)).symm
        have hms1 : MS (bc_up M1 49 0 dp i) dk fr pop bnd nd ni sg ln := by
          refine up46_ms ?_ (by decide) (by decide)
          obtain ⟨a1, a2, a3, a4, a5, a6, a7⟩ := hs
          have e0 : ∀ q, q < 54 → M1 34 0 q = M0 34 0 q := fun q hq9 => by rw [e34]; unfold cpF; rw [if_neg (by omega)]
          refine ⟨a1, ⟨by rw [hRQ.2.1 5 (by decide), hT.2.1 5 (by decide) (by decide) (by decide)]; exact a2.1, by rw [hRQ.2.1 6 (by decide), hT.2.1 6 (by decide) (by decide) (by decide)]; exact a2.2⟩, fun q x y => by rw [e0 _ (by omega)]; exact a3 q x y, fun q x y => by rw [e0 _ (by omega)]; exact a4 q x y, by rw [e0 _ (by omega), e0 _ (by omega)]; exact a5, fun q x y => by rw [e0 _ (by omega), e0 _ (by omega)]; exact a6 q x y, a7⟩
        have hML1 : ML (bc_up M1 49 0 dp i) dk fr nd ni sg ln := by
          unfold ML at hMLc ⊢
          rw [up_kne (k' := 33) (by decide), up_kne (k' := 41) (by decide), up_kne (k' := 42) (by decide), hRQ.1 41 0 (by omega), hRQ.1 42 0 (by omega), hRQ.2.1 25 (by decide), hRQ.2.1 27 (by decide)]
          exact hMLc
        have hV1 : TV (bc_up M1 49 0 dp i) (bc_u s.1 dp i, s.2) := by
          obtain ⟨⟨v1, v2, v3⟩, v4, v5⟩ := hV
          refine ⟨⟨?_, ?_, ?_⟩, ?_, v5⟩
          · rw [up_kne (by decide), hRQ.2.1 41 (by decide)]; exact v1
          · rw [up_kne (by decide), hRQ.2.1 40 (by decide)]; exact v2
          · rw [up_kne (by decide), hRQ.1 50 0 (by omega)]; exact v3
          · rw [up_at, hRQ.1 49 0 (by omega), v4]
        have hcs := bs_cnt_sub hl.1 (i := i) (by omega) hb 16
        rw [if_pos (by omega)] at hcs
        have hlr := bs_clr_rng hl (i := i) (by omega) hb
        refine ist_5 eX9_tries_102 ?_
        refine wp_aload_n eX9_tries_104 rfl ?_
        refine gf_X9_59 eX9_tries_105 ?_
        refine wp_iload_n eX9_tries_108 rfl ?_
        refine wp_iload eX9_tries_109 rfl ?_
        refine as_49 eX9_tries_111 ?_
        refine wp_aload_n eX9_tries_112 rfl ?_
        refine wp_iload_n eX9_tries_113 rfl ?_
        refine wp_iload_n eX9_tries_114 rfl ?_
        refine wp_iconst eX9_tries_115 ?_
        refine wp_iload eX9_tries_116 rfl ?_
        refine wp_ishl eX9_tries_118 ?_
        rw [bs_shl1 ⟨by omega, by omega⟩]
        refine wp_isub eX9_tries_119 ?_
        refine wp_iload_n eX9_tries_120 rfl ?_
        refine wp_iconst eX9_tries_121 ?_
        refine wp_iadd eX9_tries_122 ?_
        refine c_X9_377 eX9_tries_123 (ct_tr0 (n := n + 1) hc hlr (by omega) (by omega) (by omega) hms1 hML1 ⟨by rw [up_kne (by decide), hRQ.1 36 0 (by omega), hT.1 36 0 (by omega)]; exact hcap.1, hcap.2⟩ ⟨by rw [up_kne (by decide), hRQ.1 37 0 (by omega), hT.1 37 0 (by omega)]; exact hpol.1, hpol.2⟩ (by rw [emc1]; exact hQ1) hV1 (fun M2 hT2 hV2 => ?_))
        rw [emc1] at hV2
        refine wp_aload_n eX9_tries_126 rfl ?_
        refine wp_iload_n eX9_tries_127 rfl ?_
        refine c_X9_344 eX9_tries_128 (ct_takeBack (by omega) ?_)
        have eB : cpF (M2 34 0) (fun q => M2 40 0 (206 * dp + q)) 0 206 = M0 34 0 := by
          funext q
          unfold cpF
          by_cases h9 : 0 ≤ q ∧ q < 0 + 206
          · rw [if_pos h9]
            show M2 40 0 (206 * dp + (q - 0)) = M0 34 0 q
            rw [hT2.2.2 _ (by omega), up_kne (by decide), hRQ.1 40 0 (by omega), show 206 * dp + (q - 0) = 206 * dp + q by omega, hA q (by omega) (by omega)]
          · rw [if_neg h9, hT2.1 34 0 (by omega), up_kne (by decide), e34]
            unfold cpF
            rw [if_neg (by omega)]
        rw [eB]
        have hT3 : TP M0 (bc_row M2 34 0 (M0 34 0)) dp := by
          refine ⟨fun k9 j9 h9 => ?_, fun f a b d => ?_, fun q h9 => ?_⟩
          · by_cases e : k9 = 34 ∧ j9 = 0
            · rw [e.1, e.2, row_at]
            · have e2 : ∀ g9, bc_row M2 34 0 g9 k9 j9 = M2 k9 j9 := fun g9 => by simp only [bc_row, if_neg e]
              have e3 : bc_up M1 49 0 dp i k9 j9 = M1 k9 j9 := by simp only [bc_up, if_neg (show ¬ (k9 = 49 ∧ j9 = 0) by omega)]
              rw [e2, hT2.1 k9 j9 h9, e3, hRQ.1 k9 j9 (by omega), hT.1 k9 j9 h9]
          · rw [row_kne (by decide), hT2.2.1 f a b d, up_kne (by decide), hRQ.2.1 f a, hT.2.1 f a b d]
          · rw [row_kne (by decide), hT2.2.2 q (by omega), up_kne (by decide), hRQ.1 40 0 (by omega), hT.2.2 q h9]
        have hA3 : ∀ q, 0 ≤ q → q < 206 → bc_row M2 34 0 (M0 34 0) 40 0 (206 * dp + q) = M0 34 0 q := fun q a b => by
          rw [row_kne (by decide), hT2.2.2 _ (by omega), up_kne (by decide), hRQ.1 40 0 (by omega)]; exact hA q a b
        have hV3 : TV (bc_row M2 34 0 (M0 34 0)) (ptR (qG cap pol ni pop dk fr (sW dk fr nd ni sg ln) (sL dk fr nd ni sg ln)) ni 0 (left - ((2 ^ i.toNat : Nat) : Int)) (dp + 1) ((qG cap pol ni pop dk fr (sW dk fr nd ni sg ln) (sL dk fr nd ni sg ln)) (mc M0 c) i) (bc_u s.1 dp i, s.2)) := by
          unfold TV at hV2 ⊢
          rw [row_kne (k' := 33) (by decide), row_kne (k' := 50) (by decide), row_kne (k' := 49) (by decide)]
          exact hV2
        refine inc_4 eX9_tries_131 ?_
        refine wp_goto eX9_tries_134 ?_
        first
        | exact ih (i + 1) _ _ _ (by omega) (by omega) hT3 hA3 hV3 k
        | exact ih (i + 1) s Mc _ (by omega) (by omega) hT hA hV k
set_option maxHeartbeats 1000000 in
theorem ct_tr1 {G : bc_G} {M : bc_M} {post : bc_R → bc_M → Prop} {dk fr pop bnd : Int → Int} {nd ni sg ln c n cap pol : Int} (hc : 0 ≤ c ∧ c < 4) {left dp : Int} (hl : 0 ≤ left ∧ left < 65536) (hcnt : bs_cnt left 16 = 1) (hdp : 0 ≤ dp ∧ dp + 1 ≤ 5) (hn : 0 ≤ n ∧ n + 1 ≤ 5000) (hs : MS M dk fr pop bnd nd ni sg ln) (hML : ML M dk fr nd ni sg ln) (hcap : M 36 0 c = cap ∧ 0 ≤ cap ∧ cap ≤ 4) (hpol : M 37 0 c = pol ∧ 0 ≤ pol ∧ pol ≤ 2) (hq : QI (mc M c) ni n) {s : (Int → Int) × (Bool × Int × (Int → Int))} (hV : TV M s) (k : ∀ M' : bc_M, TP M M' dp → TV M' (ptR (qG cap pol ni pop dk fr (sW dk fr nd ni sg ln) (sL dk fr nd ni sg ln)) ni 1 left dp (mc M c) s) → post (.inr none) M') : bc_Call G yX9_tries cX9_tries 6 none 6 0 [vR G 33 0, vI c, vI left, vI dp] M post := by
  have hni := hs.1.2.1
  refine bc_enter (L := [some (vR G 33 0), some (vI c), some (vI left), some (vI dp), none, none]) (by decide) rfl rfl ?_
  refine wp_iload_n eX9_tries_0 rfl ?_
  refine wp_if_ne eX9_tries_1 (fun c1 => ?_) (fun c1 => ?_)
  · refine wp_aload_n eX9_tries_69 rfl ?_
    refine wp_iload_n eX9_tries_70 rfl ?_
    refine c_X9_341 eX9_tries_71 (ct_putAside (by omega) ?_)
    refine wp_iconst eX9_tries_74 ?_
    refine ist_4 eX9_tries_75 ?_
    have hT0 : TP M (bc_row M 40 0 (cpF (M 40 0) (M 34 0) (206 * dp) 206)) dp := ⟨row_fr.mono (fun k9 j9 q => by unfold at1 at q; exact ⟨by omega, q.2⟩), fun f _ _ _ => by rw [row_kne (by decide)], fun q h9 => by rw [row_at]; unfold cpF; rw [if_neg (by omega)]⟩
    refine lp_tr1 (n := n) (cap := cap) (pol := pol) hc hl hcnt hdp hn hs hML hcap hpol hq ni.toNat 0 s (bc_row M 40 0 (cpF (M 40 0) (M 34 0) (206 * dp) 206)) none (by omega) (by omega) hT0 (fun q a b => ?_) ?_ (fun M' a b => k M' a b)
    · rw [row_at]
      unfold cpF
      rw [if_pos (by omega), show 206 * dp + q - 206 * dp = q by omega]
    · unfold TV at hV ⊢
      rw [row_kne (k' := 33) (by decide), row_kne (k' := 50) (by decide), row_kne (k' := 49) (by decide)]
      exact hV
  · have h9 : bs_cnt left 16 = 0 := by rw [show left = 0 by omega]; decide
    omega
set_option maxHeartbeats 2000000 in
theorem lp_tr2 {G : bc_G} {post : bc_R → bc_M → Prop} {dk fr pop bnd : Int → Int} {nd ni sg ln c n cap pol : Int} (hc : 0 ≤ c ∧ c < 4) {M0 : bc_M} {left dp : Int} (hl : 0 ≤ left ∧ left < 65536) (hcnt : bs_cnt left 16 = 2) (hdp : 0 ≤ dp ∧ dp + 2 ≤ 5) (hn : 0 ≤ n ∧ n + 2 ≤ 5000) (hs : MS M0 dk fr pop bnd nd ni sg ln) (hML : ML M0 dk fr nd ni sg ln) (hcap : M0 36 0 c = cap ∧ 0 ≤ cap ∧ cap ≤ 4) (hpol : M0 37 0 c = pol ∧ 0 ≤ pol ∧ pol ≤ 2) (hq : QI (mc M0 c) ni n) : ∀ (n9 : Nat) (i : Int) (s : (Int → Int) × (Bool × Int × (Int → Int))) (Mc : bc_M) (y : Option Value) (h1 : i + n9 = ni) (h2 : 0 ≤ i) (hT : TP M0 Mc dp) (hA : ∀ q, 0 ≤ q → q < 206 → Mc 40 0 (206 * dp + q) = M0 34 0 q) (hV : TV Mc s) (k : ∀ M' : bc_M, TP M0 M' dp → TV M' (ptL (fun i => ptR (qG cap pol ni pop dk fr (sW dk fr nd ni sg ln) (sL dk fr nd ni sg ln)) ni 1 (left - ((2 ^ i.toNat : Nat) : Int)) (dp + 1) ((qG cap pol ni pop dk fr (sW dk fr nd ni sg ln) (sL dk fr nd ni sg ln)) (mc M0 c) i)) left dp n9 i s) → post (.inr none) M'), bc_W G RX9 cX9_tries 6 none 7 0 0 77 [some (vR G 33 0), some (vI c), some (vI left), some (vI dp), some (vI i), y] [] Mc post := by
  intro n9
  induction n9 with
  | zero =>
    intro i s Mc y h1 h2 hT hA hV k
    have hni := hs.1.2.1
    have hmsc := hT.ms hs
    have hMLc := hT.ml hML
    have emc : mc Mc c = mc M0 c := by funext f; unfold mc; rw [hT.1 34 0 (by omega)]
    refine wp_iload eX9_tries_77 rfl ?_
    refine wp_aload_n eX9_tries_79 rfl ?_
    refine gf_X9_79 eX9_tries_80 ?_
    rw [hmsc.2.1.2]
    refine wp_icmp_ge eX9_tries_83 (fun c83 => ?_) (fun c83 => ?_)
    · simp only [ptL] at k
      refine wp_return eX9_tries_137 ?_
      exact k Mc hT hV
    · omega
  | succ n9 ih =>
    intro i s Mc y h1 h2 hT hA hV k
    have hni := hs.1.2.1
    have hmsc := hT.ms hs
    have hMLc := hT.ml hML
    have emc : mc Mc c = mc M0 c := by funext f; unfold mc; rw [hT.1 34 0 (by omega)]
    refine wp_iload eX9_tries_77 rfl ?_
    refine wp_aload_n eX9_tries_79 rfl ?_
    refine gf_X9_79 eX9_tries_80 ?_
    rw [hmsc.2.1.2]
    refine wp_icmp_ge eX9_tries_83 (fun c83 => ?_) (fun c83 => ?_)
    · omega
    · refine wp_iload_n eX9_tries_86 rfl ?_
      refine wp_iload eX9_tries_87 rfl ?_
      refine c_X9_211 eX9_tries_89 (ct_has ?_)
      refine wp_if_eq eX9_tries_92 (fun c92 => ?_) (fun c92 => ?_) (by split <;> omega)
      · have hb : ¬ bs left i = true := by
          intro h
          rw [h] at c92
          exact absurd c92 (by decide)
        simp only [ptL] at k
        rw [if_neg hb] at k
        refine inc_4 eX9_tries_131 ?_
        refine wp_goto eX9_tries_134 ?_
        first
        | exact ih (i + 1) _ _ _ (by omega) (by omega) hT3 hA3 hV3 k
        | exact ih (i + 1) s Mc _ (by omega) (by omega) hT hA hV k
      · have hb : bs left i = true := by
          cases h : bs left i
          · rw [h] at c92; exact absurd rfl c92
          · rfl
        simp only [ptL] at k
        rw [if_pos hb] at k
        refine wp_aload_n eX9_tries_95 rfl ?_
        refine wp_iload_n eX9_tries_96 rfl ?_
        refine wp_iload eX9_tries_97 rfl ?_
        refine c_X9_279 eX9_tries_99 (ct_requests1 hmsc hMLc hc (i := i) (by omega) ⟨by rw [hT.1 36 0 (by omega)]; exact hcap.1, hcap.2⟩ ⟨by rw [hT.1 37 0 (by omega)]; exact hpol.1, hpol.2⟩ (by rw [emc]; exact hq) (by omega) (fun M1 hRQ => ?_))
        rw [emc] at hRQ
        have hQ1 := QI.st (cap := cap) (pol := pol) (pop := pop) (W := sW dk fr nd ni sg ln) (L := sL dk fr nd ni sg ln) hs.1 hq (i := i) (by omega) (sW_rng hs.1 (by omega)).1 (sW_rng hs.1 (by omega)).2
        have e34 : M1 34 0 = cpF (M0 34 0) ((qG cap pol ni pop dk fr (sW dk fr nd ni sg ln) (sL dk fr nd ni sg ln)) (mc M0 c) i) (54 + 38 * c) 38 := by rw [hRQ.2.2.2, hT.1 34 0 (by omega)]
        have emc1 : mc (bc_up M1 49 0 dp i) c = (qG cap pol ni pop dk fr (sW dk fr nd ni sg ln) (sL dk fr nd ni sg ln)) (mc M0 c) i := by
          funext f
          unfold mc
          rw [up_kne (by decide), e34]
          unfold cpF
          by_cases hf : 54 + 38 * c ≤ 54 + 38 * c + f ∧ 54 + 38 * c + f < 54 + 38 * c + 38
          · rw [if_pos hf, show 54 + 38 * c + f - (54 + 38 * c) = f by omega]; rfl
          · rw [if_neg hf]
            exact (qG_out (g := mc M0 c) (by omega) (by omega)).symm
        have hms1 : MS (bc_up M1 49 0 dp i) dk fr pop bnd nd ni sg ln := by
          refine up46_ms ?_ (by decide) (by decide)
          obtain ⟨a1, a2, a3, a4, a5, a6, a7⟩ := hs
          have e0 : ∀ q, q < 54 → M1 34 0 q = M0 34 0 q := fun q hq9 => by rw [e34]; unfold cpF; rw [if_neg (by omega)]
          refine ⟨a1, ⟨by rw [hRQ.2.1 5 (by decide), hT.2.1 5 (by decide) (by decide) (by decide)]; exact a2.1, by rw [hRQ.2.1 6 (by decide), hT.2.1 6 (by decide) (by decide) (by decide)]; exact a2.2⟩, fun q x y => by rw [e0 _ (by omega)]; exact a3 q x y, fun q x y => by rw [e0 _ (by omega)]; exact a4 q x y, by rw [e0 _ (by omega), e0 _ (by omega)]; exact a5, fun q x y => by rw [e0 _ (by omega), e0 _ (by omega)]; exact a6 q x y, a7⟩
        have hML1 : ML (bc_up M1 49 0 dp i) dk fr nd ni sg ln := by
          unfold ML at hMLc ⊢
          rw [up_kne (k' := 33) (by decide), up_kne (k' := 41) (by decide), up_kne (k' := 42) (by decide), hRQ.1 41 0 (by omega), hRQ.1 42 0 (by omega), hRQ.2.1 25 (by decide), hRQ.2.1 27 (by decide)]
          exact hMLc
        have hV1 : TV (bc_up M1 49 0 dp i) (bc_u s.1 dp i, s.2) := by
          obtain ⟨⟨v1, v2, v3⟩, v4, v5⟩ := hV
          refine ⟨⟨?_, ?_, ?_⟩, ?_, v5⟩
          · rw [up_kne (by decide), hRQ.2.1 41 (by decide)]; exact v1
          · rw [up_kne (by decide), hRQ.2.1 40 (by decide)]; exact v2
          · rw [up_kne (by decide), hRQ.1 50 0 (by omega)]; exact v3
          · rw [up_at, hRQ.1 49 0 (by omega), v4]
        have hcs := bs_cnt_sub hl.1 (i := i) (by omega) hb 16
        rw [if_pos (by omega)] at hcs
        have hlr := bs_clr_rng hl (i := i) (by omega) hb
        refine ist_5 eX9_tries_102 ?_
        refine wp_aload_n eX9_tries_104 rfl ?_
        refine gf_X9_59 eX9_tries_105 ?_
        refine wp_iload_n eX9_tries_108 rfl ?_
        refine wp_iload eX9_tries_109 rfl ?_
        refine as_49 eX9_tries_111 ?_
        refine wp_aload_n eX9_tries_112 rfl ?_
        refine wp_iload_n eX9_tries_113 rfl ?_
        refine wp_iload_n eX9_tries_114 rfl ?_
        refine wp_iconst eX9_tries_115 ?_
        refine wp_iload eX9_tries_116 rfl ?_
        refine wp_ishl eX9_tries_118 ?_
        rw [bs_shl1 ⟨by omega, by omega⟩]
        refine wp_isub eX9_tries_119 ?_
        refine wp_iload_n eX9_tries_120 rfl ?_
        refine wp_iconst eX9_tries_121 ?_
        refine wp_iadd eX9_tries_122 ?_
        refine c_X9_377 eX9_tries_123 (ct_tr1 (n := n + 1) hc hlr (by omega) (by omega) (by omega) hms1 hML1 ⟨by rw [up_kne (by decide), hRQ.1 36 0 (by omega), hT.1 36 0 (by omega)]; exact hcap.1, hcap.2⟩ ⟨by rw [up_kne (by decide), hRQ.1 37 0 (by omega), hT.1 37 0 (by omega)]; exact hpol.1, hpol.2⟩ (by rw [emc1]; exact hQ1) hV1 (fun M2 hT2 hV2 => ?_))
        rw [emc1] at hV2
        refine wp_aload_n eX9_tries_126 rfl ?_
        refine wp_iload_n eX9_tries_127 rfl ?_
        refine c_X9_344 eX9_tries_128 (ct_takeBack (by omega) ?_)
        have eB : cpF (M2 34 0) (fun q => M2 40 0 (206 * dp + q)) 0 206 = M0 34 0 := by
          funext q
          unfold cpF
          by_cases h9 : 0 ≤ q ∧ q < 0 + 206
          · rw [if_pos h9]
            show M2 40 0 (206 * dp + (q - 0)) = M0 34 0 q
            rw [hT2.2.2 _ (by omega), up_kne (by decide), hRQ.1 40 0 (by omega), show 206 * dp + (q - 0) = 206 * dp + q by omega, hA q (by omega) (by omega)]
          · rw [if_neg h9, hT2.1 34 0 (by omega), up_kne (by decide), e34]
            unfold cpF
            rw [if_neg (by omega)]
        rw [eB]
        have hT3 : TP M0 (bc_row M2 34 0 (M0 34 0)) dp := by
          refine ⟨fun k9 j9 h9 => ?_, fun f a b d => ?_, fun q h9 => ?_⟩
          · by_cases e : k9 = 34 ∧ j9 = 0
            · rw [e.1, e.2, row_at]
            · have e2 : ∀ g9, bc_row M2 34 0 g9 k9 j9 = M2 k9 j9 := fun g9 => by simp only [bc_row, if_neg e]
              have e3 : bc_up M1 49 0 dp i k9 j9 = M1 k9 j9 := by simp only [bc_up, if_neg (show ¬ (k9 = 49 ∧ j9 = 0) by omega)]
              rw [e2, hT2.1 k9 j9 h9, e3, hRQ.1 k9 j9 (by omega), hT.1 k9 j9 h9]
          · rw [row_kne (by decide), hT2.2.1 f a b d, up_kne (by decide), hRQ.2.1 f a, hT.2.1 f a b d]
          · rw [row_kne (by decide), hT2.2.2 q (by omega), up_kne (by decide), hRQ.1 40 0 (by omega), hT.2.2 q h9]
        have hA3 : ∀ q, 0 ≤ q → q < 206 → bc_row M2 34 0 (M0 34 0) 40 0 (206 * dp + q) = M0 34 0 q := fun q a b => by
          rw [row_kne (by decide), hT2.2.2 _ (by omega), up_kne (by decide), hRQ.1 40 0 (by omega)]; exact hA q a b
        have hV3 : TV (bc_row M2 34 0 (M0 34 0)) (ptR (qG cap pol ni pop dk fr (sW dk fr nd ni sg ln) (sL dk fr nd ni sg ln)) ni 1 (left - ((2 ^ i.toNat : Nat) : Int)) (dp + 1) ((qG cap pol ni pop dk fr (sW dk fr nd ni sg ln) (sL dk fr nd ni sg ln)) (mc M0 c) i) (bc_u s.1 dp i, s.2)) := by
          unfold TV at hV2 ⊢
          rw [row_kne (k' := 33) (by decide), row_kne (k' := 50) (by decide), row_kne (k' := 49) (by decide)]
          exact hV2
        refine inc_4 eX9_tries_131 ?_
        refine wp_goto eX9_tries_134 ?_
        first
        | exact ih (i + 1) _ _ _ (by omega) (by omega) hT3 hA3 hV3 k
        | exact ih (i + 1) s Mc _ (by omega) (by omega) hT hA hV k
set_option maxHeartbeats 1000000 in
theorem ct_tr2 {G : bc_G} {M : bc_M} {post : bc_R → bc_M → Prop} {dk fr pop bnd : Int → Int} {nd ni sg ln c n cap pol : Int} (hc : 0 ≤ c ∧ c < 4) {left dp : Int} (hl : 0 ≤ left ∧ left < 65536) (hcnt : bs_cnt left 16 = 2) (hdp : 0 ≤ dp ∧ dp + 2 ≤ 5) (hn : 0 ≤ n ∧ n + 2 ≤ 5000) (hs : MS M dk fr pop bnd nd ni sg ln) (hML : ML M dk fr nd ni sg ln) (hcap : M 36 0 c = cap ∧ 0 ≤ cap ∧ cap ≤ 4) (hpol : M 37 0 c = pol ∧ 0 ≤ pol ∧ pol ≤ 2) (hq : QI (mc M c) ni n) {s : (Int → Int) × (Bool × Int × (Int → Int))} (hV : TV M s) (k : ∀ M' : bc_M, TP M M' dp → TV M' (ptR (qG cap pol ni pop dk fr (sW dk fr nd ni sg ln) (sL dk fr nd ni sg ln)) ni 2 left dp (mc M c) s) → post (.inr none) M') : bc_Call G yX9_tries cX9_tries 6 none 7 0 [vR G 33 0, vI c, vI left, vI dp] M post := by
  have hni := hs.1.2.1
  refine bc_enter (L := [some (vR G 33 0), some (vI c), some (vI left), some (vI dp), none, none]) (by decide) rfl rfl ?_
  refine wp_iload_n eX9_tries_0 rfl ?_
  refine wp_if_ne eX9_tries_1 (fun c1 => ?_) (fun c1 => ?_)
  · refine wp_aload_n eX9_tries_69 rfl ?_
    refine wp_iload_n eX9_tries_70 rfl ?_
    refine c_X9_341 eX9_tries_71 (ct_putAside (by omega) ?_)
    refine wp_iconst eX9_tries_74 ?_
    refine ist_4 eX9_tries_75 ?_
    have hT0 : TP M (bc_row M 40 0 (cpF (M 40 0) (M 34 0) (206 * dp) 206)) dp := ⟨row_fr.mono (fun k9 j9 q => by unfold at1 at q; exact ⟨by omega, q.2⟩), fun f _ _ _ => by rw [row_kne (by decide)], fun q h9 => by rw [row_at]; unfold cpF; rw [if_neg (by omega)]⟩
    refine lp_tr2 (n := n) (cap := cap) (pol := pol) hc hl hcnt hdp hn hs hML hcap hpol hq ni.toNat 0 s (bc_row M 40 0 (cpF (M 40 0) (M 34 0) (206 * dp) 206)) none (by omega) (by omega) hT0 (fun q a b => ?_) ?_ (fun M' a b => k M' a b)
    · rw [row_at]
      unfold cpF
      rw [if_pos (by omega), show 206 * dp + q - 206 * dp = q by omega]
    · unfold TV at hV ⊢
      rw [row_kne (k' := 33) (by decide), row_kne (k' := 50) (by decide), row_kne (k' := 49) (by decide)]
      exact hV
  · have h9 : bs_cnt left 16 = 0 := by rw [show left = 0 by omega]; decide
    omega
set_option maxHeartbeats 2000000 in
theorem lp_tr3 {G : bc_G} {post : bc_R → bc_M → Prop} {dk fr pop bnd : Int → Int} {nd ni sg ln c n cap pol : Int} (hc : 0 ≤ c ∧ c < 4) {M0 : bc_M} {left dp : Int} (hl : 0 ≤ left ∧ left < 65536) (hcnt : bs_cnt left 16 = 3) (hdp : 0 ≤ dp ∧ dp + 3 ≤ 5) (hn : 0 ≤ n ∧ n + 3 ≤ 5000) (hs : MS M0 dk fr pop bnd nd ni sg ln) (hML : ML M0 dk fr nd ni sg ln) (hcap : M0 36 0 c = cap ∧ 0 ≤ cap ∧ cap ≤ 4) (hpol : M0 37 0 c = pol ∧ 0 ≤ pol ∧ pol ≤ 2) (hq : QI (mc M0 c) ni n) : ∀ (n9 : Nat) (i : Int) (s : (Int → Int) × (Bool × Int × (Int → Int))) (Mc : bc_M) (y : Option Value) (h1 : i + n9 = ni) (h2 : 0 ≤ i) (hT : TP M0 Mc dp) (hA : ∀ q, 0 ≤ q → q < 206 → Mc 40 0 (206 * dp + q) = M0 34 0 q) (hV : TV Mc s) (k : ∀ M' : bc_M, TP M0 M' dp → TV M' (ptL (fun i => ptR (qG cap pol ni pop dk fr (sW dk fr nd ni sg ln) (sL dk fr nd ni sg ln)) ni 2 (left - ((2 ^ i.toNat : Nat) : Int)) (dp + 1) ((qG cap pol ni pop dk fr (sW dk fr nd ni sg ln) (sL dk fr nd ni sg ln)) (mc M0 c) i)) left dp n9 i s) → post (.inr none) M'), bc_W G RX9 cX9_tries 6 none 8 0 0 77 [some (vR G 33 0), some (vI c), some (vI left), some (vI dp), some (vI i), y] [] Mc post := by
  intro n9
  induction n9 with
  | zero =>
    intro i s Mc y h1 h2 hT hA hV k
    have hni := hs.1.2.1
    have hmsc := hT.ms hs
    have hMLc := hT.ml hML
    have emc : mc Mc c = mc M0 c := by funext f; unfold mc; rw [hT.1 34 0 (by omega)]
    refine wp_iload eX9_tries_77 rfl ?_
    refine wp_aload_n eX9_tries_79 rfl ?_
    refine gf_X9_79 eX9_tries_80 ?_
    rw [hmsc.2.1.2]
    refine wp_icmp_ge eX9_tries_83 (fun c83 => ?_) (fun c83 => ?_)
    · simp only [ptL] at k
      refine wp_return eX9_tries_137 ?_
      exact k Mc hT hV
    · omega
  | succ n9 ih =>
    intro i s Mc y h1 h2 hT hA hV k
    have hni := hs.1.2.1
    have hmsc := hT.ms hs
    have hMLc := hT.ml hML
    have emc : mc Mc c = mc M0 c := by funext f; unfold mc; rw [hT.1 34 0 (by omega)]
    refine wp_iload eX9_tries_77 rfl ?_
    refine wp_aload_n eX9_tries_79 rfl ?_
    refine gf_X9_79 eX9_tries_80 ?_
    rw [hmsc.2.1.2]
    refine wp_icmp_ge eX9_tries_83 (fun c83 => ?_) (fun c83 => ?_)
    · omega
    · refine wp_iload_n eX9_tries_86 rfl ?_
      refine wp_iload eX9_tries_87 rfl ?_
      refine c_X9_211 eX9_tries_89 (ct_has ?_)
      refine wp_if_eq eX9_tries_92 (fun c92 => ?_) (fun c92 => ?_) (by split <;> omega)
      · have hb : ¬ bs left i = true := by
          intro h
          rw [h] at c92
          exact absurd c92 (by decide)
        simp only [ptL] at k
        rw [if_neg hb] at k
        refine inc_4 eX9_tries_131 ?_
        refine wp_goto eX9_tries_134 ?_
        first
        | exact ih (i + 1) _ _ _ (by omega) (by omega) hT3 hA3 hV3 k
        | exact ih (i + 1) s Mc _ (by omega) (by omega) hT hA hV k
      · have hb : bs left i = true := by
          cases h : bs left i
          · rw [h] at c92; exact absurd rfl c92
          · rfl
        simp only [ptL] at k
        rw [if_pos hb] at k
        refine wp_aload_n eX9_tries_95 rfl ?_
        refine wp_iload_n eX9_tries_96 rfl ?_
        refine wp_iload eX9_tries_97 rfl ?_
        refine c_X9_279 eX9_tries_99 (ct_requests1 hmsc hMLc hc (i := i) (by omega) ⟨by rw [hT.1 36 0 (by omega)]; exact hcap.1, hcap.2⟩ ⟨by rw [hT.1 37 0 (by omega)]; exact hpol.1, hpol.2⟩ (by rw [emc]; exact hq) (by omega) (fun M1 hRQ => ?_))
        rw [emc] at hRQ
        have hQ1 := QI.st (cap := cap) (pol := pol) (pop := pop) (W := sW dk fr nd ni sg ln) (L := sL dk fr nd ni sg ln) hs.1 hq (i := i) (by omega) (sW_rng hs.1 (by omega)).1 (sW_rng hs.1 (by omega)).2
        have e34 : M1 34 0 = cpF (M0 34 0) ((qG cap pol ni pop dk fr (sW dk fr nd ni sg ln) (sL dk fr nd ni sg ln)) (mc M0 c) i) (54 + 38 * c) 38 := by rw [hRQ.2.2.2, hT.1 34 0 (by omega)]
        have emc1 : mc (bc_up M1 49 0 dp i) c = (qG cap pol ni pop dk fr (sW dk fr nd ni sg ln) (sL dk fr nd ni sg ln)) (mc M0 c) i := by
          funext f
          unfold mc
          rw [up_kne (by decide), e34]
          unfold cpF
          by_cases hf : 54 + 38 * c ≤ 54 + 38 * c + f ∧ 54 + 38 * c + f < 54 + 38 * c + 38
          · rw [if_pos hf, show 54 + 38 * c + f - (54 + 38 * c) = f by omega]; rfl
          · rw [if_neg hf]
            exact (qG_out (g := mc M0 c) (by omega) (by omega)).symm
        have hms1 : MS (bc_up M1 49 0 dp i) dk fr pop bnd nd ni sg ln := by
          refine up46_ms ?_ (by decide) (by decide)
          obtain ⟨a1, a2, a3, a4, a5, a6, a7⟩ := hs
          have e0 : ∀ q, q < 54 → M1 34 0 q = M0 34 0 q := fun q hq9 => by rw [e34]; unfold cpF; rw [if_neg (by omega)]
          refine ⟨a1, ⟨by rw [hRQ.2.1 5 (by decide), hT.2.1 5 (by decide) (by decide) (by decide)]; exact a2.1, by rw [hRQ.2.1 6 (by decide), hT.2.1 6 (by decide) (by decide) (by decide)]; exact a2.2⟩, fun q x y => by rw [e0 _ (by omega)]; exact a3 q x y, fun q x y => by rw [e0 _ (by omega)]; exact a4 q x y, by rw [e0 _ (by omega), e0 _ (by omega)]; exact a5, fun q x y => by rw [e0 _ (by omega), e0 _ (by omega)]; exact a6 q x y, a7⟩
        have hML1 : ML (bc_up M1 49 0 dp i) dk fr nd ni sg ln := by
          unfold ML at hMLc ⊢
          rw [up_kne (k' := 33) (by decide), up_kne (k' := 41) (by decide), up_kne (k' := 42) (by decide), hRQ.1 41 0 (by omega), hRQ.1 42 0 (by omega), hRQ.2.1 25 (by decide), hRQ.2.1 27 (by decide)]
          exact hMLc
        have hV1 : TV (bc_up M1 49 0 dp i) (bc_u s.1 dp i, s.2) := by
          obtain ⟨⟨v1, v2, v3⟩, v4, v5⟩ := hV
          refine ⟨⟨?_, ?_, ?_⟩, ?_, v5⟩
          · rw [up_kne (by decide), hRQ.2.1 41 (by decide)]; exact v1
          · rw [up_kne (by decide), hRQ.2.1 40 (by decide)]; exact v2
          · rw [up_kne (by decide), hRQ.1 50 0 (by omega)]; exact v3
          · rw [up_at, hRQ.1 49 0 (by omega), v4]
        have hcs := bs_cnt_sub hl.1 (i := i) (by omega) hb 16
        rw [if_pos (by omega)] at hcs
        have hlr := bs_clr_rng hl (i := i) (by omega) hb
        refine ist_5 eX9_tries_102 ?_
        refine wp_aload_n eX9_tries_104 rfl ?_
        refine gf_X9_59 eX9_tries_105 ?_
        refine wp_iload_n eX9_tries_108 rfl ?_
        refine wp_iload eX9_tries_109 rfl ?_
        refine as_49 eX9_tries_111 ?_
        refine wp_aload_n eX9_tries_112 rfl ?_
        refine wp_iload_n eX9_tries_113 rfl ?_
        refine wp_iload_n eX9_tries_114 rfl ?_
        refine wp_iconst eX9_tries_115 ?_
        refine wp_iload eX9_tries_116 rfl ?_
        refine wp_ishl eX9_tries_118 ?_
        rw [bs_shl1 ⟨by omega, by omega⟩]
        refine wp_isub eX9_tries_119 ?_
        refine wp_iload_n eX9_tries_120 rfl ?_
        refine wp_iconst eX9_tries_121 ?_
        refine wp_iadd eX9_tries_122 ?_
        refine c_X9_377 eX9_tries_123 (ct_tr2 (n := n + 1) hc hlr (by omega) (by omega) (by omega) hms1 hML1 ⟨by rw [up_kne (by decide), hRQ.1 36 0 (by omega), hT.1 36 0 (by omega)]; exact hcap.1, hcap.2⟩ ⟨by rw [up_kne (by decide), hRQ.1 37 0 (by omega), hT.1 37 0 (by omega)]; exact hpol.1, hpol.2⟩ (by rw [emc1]; exact hQ1) hV1 (fun M2 hT2 hV2 => ?_))
        rw [emc1] at hV2
        refine wp_aload_n eX9_tries_126 rfl ?_
        refine wp_iload_n eX9_tries_127 rfl ?_
        refine c_X9_344 eX9_tries_128 (ct_takeBack (by omega) ?_)
        have eB : cpF (M2 34 0) (fun q => M2 40 0 (206 * dp + q)) 0 206 = M0 34 0 := by
          funext q
          unfold cpF
          by_cases h9 : 0 ≤ q ∧ q < 0 + 206
          · rw [if_pos h9]
            show M2 40 0 (206 * dp + (q - 0)) = M0 34 0 q
            rw [hT2.2.2 _ (by omega), up_kne (by decide), hRQ.1 40 0 (by omega), show 206 * dp + (q - 0) = 206 * dp + q by omega, hA q (by omega) (by omega)]
          · rw [if_neg h9, hT2.1 34 0 (by omega), up_kne (by decide), e34]
            unfold cpF
            rw [if_neg (by omega)]
        rw [eB]
        have hT3 : TP M0 (bc_row M2 34 0 (M0 34 0)) dp := by
          refine ⟨fun k9 j9 h9 => ?_, fun f a b d => ?_, fun q h9 => ?_⟩
          · by_cases e : k9 = 34 ∧ j9 = 0
            · rw [e.1, e.2, row_at]
            · have e2 : ∀ g9, bc_row M2 34 0 g9 k9 j9 = M2 k9 j9 := fun g9 => by simp only [bc_row, if_neg e]
              have e3 : bc_up M1 49 0 dp i k9 j9 = M1 k9 j9 := by simp only [bc_up, if_neg (show ¬ (k9 = 49 ∧ j9 = 0) by omega)]
              rw [e2, hT2.1 k9 j9 h9, e3, hRQ.1 k9 j9 (by omega), hT.1 k9 j9 h9]
          · rw [row_kne (by decide), hT2.2.1 f a b d, up_kne (by decide), hRQ.2.1 f a, hT.2.1 f a b d]
          · rw [row_kne (by decide), hT2.2.2 q (by omega), up_kne (by decide), hRQ.1 40 0 (by omega), hT.2.2 q h9]
        have hA3 : ∀ q, 0 ≤ q → q < 206 → bc_row M2 34 0 (M0 34 0) 40 0 (206 * dp + q) = M0 34 0 q := fun q a b => by
          rw [row_kne (by decide), hT2.2.2 _ (by omega), up_kne (by decide), hRQ.1 40 0 (by omega)]; exact hA q a b
        have hV3 : TV (bc_row M2 34 0 (M0 34 0)) (ptR (qG cap pol ni pop dk fr (sW dk fr nd ni sg ln) (sL dk fr nd ni sg ln)) ni 2 (left - ((2 ^ i.toNat : Nat) : Int)) (dp + 1) ((qG cap pol ni pop dk fr (sW dk fr nd ni sg ln) (sL dk fr nd ni sg ln)) (mc M0 c) i) (bc_u s.1 dp i, s.2)) := by
          unfold TV at hV2 ⊢
          rw [row_kne (k' := 33) (by decide), row_kne (k' := 50) (by decide), row_kne (k' := 49) (by decide)]
          exact hV2
        refine inc_4 eX9_tries_131 ?_
        refine wp_goto eX9_tries_134 ?_
        first
        | exact ih (i + 1) _ _ _ (by omega) (by omega) hT3 hA3 hV3 k
        | exact ih (i + 1) s Mc _ (by omega) (by omega) hT hA hV k
set_option maxHeartbeats 1000000 in
theorem ct_tr3 {G : bc_G} {M : bc_M} {post : bc_R → bc_M → Prop} {dk fr pop bnd : Int → Int} {nd ni sg ln c n cap pol : Int} (hc : 0 ≤ c ∧ c < 4) {left dp : Int} (hl : 0 ≤ left ∧ left < 65536) (hcnt : bs_cnt left 16 = 3) (hdp : 0 ≤ dp ∧ dp + 3 ≤ 5) (hn : 0 ≤ n ∧ n + 3 ≤ 5000) (hs : MS M dk fr pop bnd nd ni sg ln) (hML : ML M dk fr nd ni sg ln) (hcap : M 36 0 c = cap ∧ 0 ≤ cap ∧ cap ≤ 4) (hpol : M 37 0 c = pol ∧ 0 ≤ pol ∧ pol ≤ 2) (hq : QI (mc M c) ni n) {s : (Int → Int) × (Bool × Int × (Int → Int))} (hV : TV M s) (k : ∀ M' : bc_M, TP M M' dp → TV M' (ptR (qG cap pol ni pop dk fr (sW dk fr nd ni sg ln) (sL dk fr nd ni sg ln)) ni 3 left dp (mc M c) s) → post (.inr none) M') : bc_Call G yX9_tries cX9_tries 6 none 8 0 [vR G 33 0, vI c, vI left, vI dp] M post := by
  have hni := hs.1.2.1
  refine bc_enter (L := [some (vR G 33 0), some (vI c), some (vI left), some (vI dp), none, none]) (by decide) rfl rfl ?_
  refine wp_iload_n eX9_tries_0 rfl ?_
  refine wp_if_ne eX9_tries_1 (fun c1 => ?_) (fun c1 => ?_)
  · refine wp_aload_n eX9_tries_69 rfl ?_
    refine wp_iload_n eX9_tries_70 rfl ?_
    refine c_X9_341 eX9_tries_71 (ct_putAside (by omega) ?_)
    refine wp_iconst eX9_tries_74 ?_
    refine ist_4 eX9_tries_75 ?_
    have hT0 : TP M (bc_row M 40 0 (cpF (M 40 0) (M 34 0) (206 * dp) 206)) dp := ⟨row_fr.mono (fun k9 j9 q => by unfold at1 at q; exact ⟨by omega, q.2⟩), fun f _ _ _ => by rw [row_kne (by decide)], fun q h9 => by rw [row_at]; unfold cpF; rw [if_neg (by omega)]⟩
    refine lp_tr3 (n := n) (cap := cap) (pol := pol) hc hl hcnt hdp hn hs hML hcap hpol hq ni.toNat 0 s (bc_row M 40 0 (cpF (M 40 0) (M 34 0) (206 * dp) 206)) none (by omega) (by omega) hT0 (fun q a b => ?_) ?_ (fun M' a b => k M' a b)
    · rw [row_at]
      unfold cpF
      rw [if_pos (by omega), show 206 * dp + q - 206 * dp = q by omega]
    · unfold TV at hV ⊢
      rw [row_kne (k' := 33) (by decide), row_kne (k' := 50) (by decide), row_kne (k' := 49) (by decide)]
      exact hV
  · have h9 : bs_cnt left 16 = 0 := by rw [show left = 0 by omega]; decide
    omega
set_option maxHeartbeats 2000000 in
theorem lp_tr4 {G : bc_G} {post : bc_R → bc_M → Prop} {dk fr pop bnd : Int → Int} {nd ni sg ln c n cap pol : Int} (hc : 0 ≤ c ∧ c < 4) {M0 : bc_M} {left dp : Int} (hl : 0 ≤ left ∧ left < 65536) (hcnt : bs_cnt left 16 = 4) (hdp : 0 ≤ dp ∧ dp + 4 ≤ 5) (hn : 0 ≤ n ∧ n + 4 ≤ 5000) (hs : MS M0 dk fr pop bnd nd ni sg ln) (hML : ML M0 dk fr nd ni sg ln) (hcap : M0 36 0 c = cap ∧ 0 ≤ cap ∧ cap ≤ 4) (hpol : M0 37 0 c = pol ∧ 0 ≤ pol ∧ pol ≤ 2) (hq : QI (mc M0 c) ni n) : ∀ (n9 : Nat) (i : Int) (s : (Int → Int) × (Bool × Int × (Int → Int))) (Mc : bc_M) (y : Option Value) (h1 : i + n9 = ni) (h2 : 0 ≤ i) (hT : TP M0 Mc dp) (hA : ∀ q, 0 ≤ q → q < 206 → Mc 40 0 (206 * dp + q) = M0 34 0 q) (hV : TV Mc s) (k : ∀ M' : bc_M, TP M0 M' dp → TV M' (ptL (fun i => ptR (qG cap pol ni pop dk fr (sW dk fr nd ni sg ln) (sL dk fr nd ni sg ln)) ni 3 (left - ((2 ^ i.toNat : Nat) : Int)) (dp + 1) ((qG cap pol ni pop dk fr (sW dk fr nd ni sg ln) (sL dk fr nd ni sg ln)) (mc M0 c) i)) left dp n9 i s) → post (.inr none) M'), bc_W G RX9 cX9_tries 6 none 9 0 0 77 [some (vR G 33 0), some (vI c), some (vI left), some (vI dp), some (vI i), y] [] Mc post := by
  intro n9
  induction n9 with
  | zero =>
    intro i s Mc y h1 h2 hT hA hV k
    have hni := hs.1.2.1
    have hmsc := hT.ms hs
    have hMLc := hT.ml hML
    have emc : mc Mc c = mc M0 c := by funext f; unfold mc; rw [hT.1 34 0 (by omega)]
    refine wp_iload eX9_tries_77 rfl ?_
    refine wp_aload_n eX9_tries_79 rfl ?_
    refine gf_X9_79 eX9_tries_80 ?_
    rw [hmsc.2.1.2]
    refine wp_icmp_ge eX9_tries_83 (fun c83 => ?_) (fun c83 => ?_)
    · simp only [ptL] at k
      refine wp_return eX9_tries_137 ?_
      exact k Mc hT hV
    · omega
  | succ n9 ih =>
    intro i s Mc y h1 h2 hT hA hV k
    have hni := hs.1.2.1
    have hmsc := hT.ms hs
    have hMLc := hT.ml hML
    have emc : mc Mc c = mc M0 c := by funext f; unfold mc; rw [hT.1 34 0 (by omega)]
    refine wp_iload eX9_tries_77 rfl ?_
    refine wp_aload_n eX9_tries_79 rfl ?_
    refine gf_X9_79 eX9_tries_80 ?_
    rw [hmsc.2.1.2]
    refine wp_icmp_ge eX9_tries_83 (fun c83 => ?_) (fun c83 => ?_)
    · omega
    · refine wp_iload_n eX9_tries_86 rfl ?_
      refine wp_iload eX9_tries_87 rfl ?_
      refine c_X9_211 eX9_tries_89 (ct_has ?_)
      refine wp_if_eq eX9_tries_92 (fun c92 => ?_) (fun c92 => ?_) (by split <;> omega)
      · have hb : ¬ bs left i = true := by
          intro h
          rw [h] at c92
          exact absurd c92 (by decide)
        simp only [ptL] at k
        rw [if_neg hb] at k
        refine inc_4 eX9_tries_131 ?_
        refine wp_goto eX9_tries_134 ?_
        first
        | exact ih (i + 1) _ _ _ (by omega) (by omega) hT3 hA3 hV3 k
        | exact ih (i + 1) s Mc _ (by omega) (by omega) hT hA hV k
      · have hb : bs left i = true := by
          cases h : bs left i
          · rw [h] at c92; exact absurd rfl c92
          · rfl
        simp only [ptL] at k
        rw [if_pos hb] at k
        refine wp_aload_n eX9_tries_95 rfl ?_
        refine wp_iload_n eX9_tries_96 rfl ?_
        refine wp_iload eX9_tries_97 rfl ?_
        refine c_X9_279 eX9_tries_99 (ct_requests1 hmsc hMLc hc (i := i) (by omega) ⟨by rw [hT.1 36 0 (by omega)]; exact hcap.1, hcap.2⟩ ⟨by rw [hT.1 37 0 (by omega)]; exact hpol.1, hpol.2⟩ (by rw [emc]; exact hq) (by omega) (fun M1 hRQ => ?_))
        rw [emc] at hRQ
        have hQ1 := QI.st (cap := cap) (pol := pol) (pop := pop) (W := sW dk fr nd ni sg ln) (L := sL dk fr nd ni sg ln) hs.1 hq (i := i) (by omega) (sW_rng hs.1 (by omega)).1 (sW_rng hs.1 (by omega)).2
        have e34 : M1 34 0 = cpF (M0 34 0) ((qG cap pol ni pop dk fr (sW dk fr nd ni sg ln) (sL dk fr nd ni sg ln)) (mc M0 c) i) (54 + 38 * c) 38 := by rw [hRQ.2.2.2, hT.1 34 0 (by omega)]
        have emc1 : mc (bc_up M1 49 0 dp i) c = (qG cap pol ni pop dk fr (sW dk fr nd ni sg ln) (sL dk fr nd ni sg ln)) (mc M0 c) i := by
          funext f
          unfold mc
          rw [up_kne (by decide), e34]
          unfold cpF
          by_cases hf : 54 + 38 * c ≤ 54 + 38 * c + f ∧ 54 + 38 * c + f < 54 + 38 * c + 38
          · rw [if_pos hf, show 54 + 38 * c + f - (54 + 38 * c) = f by omega]; rfl
          · rw [if_neg hf]
            exact (qG_out (g := mc M0 c) (by omega) (by omega)).symm
        have hms1 : MS (bc_up M1 49 0 dp i) dk fr pop bnd nd ni sg ln := by
          refine up46_ms ?_ (by decide) (by decide)
          obtain ⟨a1, a2, a3, a4, a5, a6, a7⟩ := hs
          have e0 : ∀ q, q < 54 → M1 34 0 q = M0 34 0 q := fun q hq9 => by rw [e34]; unfold cpF; rw [if_neg (by omega)]
          refine ⟨a1, ⟨by rw [hRQ.2.1 5 (by decide), hT.2.1 5 (by decide) (by decide) (by decide)]; exact a2.1, by rw [hRQ.2.1 6 (by decide), hT.2.1 6 (by decide) (by decide) (by decide)]; exact a2.2⟩, fun q x y => by rw [e0 _ (by omega)]; exact a3 q x y, fun q x y => by rw [e0 _ (by omega)]; exact a4 q x y, by rw [e0 _ (by omega), e0 _ (by omega)]; exact a5, fun q x y => by rw [e0 _ (by omega), e0 _ (by omega)]; exact a6 q x y, a7⟩
        have hML1 : ML (bc_up M1 49 0 dp i) dk fr nd ni sg ln := by
          unfold ML at hMLc ⊢
          rw [up_kne (k' := 33) (by decide), up_kne (k' := 41) (by decide), up_kne (k' := 42) (by decide), hRQ.1 41 0 (by omega), hRQ.1 42 0 (by omega), hRQ.2.1 25 (by decide), hRQ.2.1 27 (by decide)]
          exact hMLc
        have hV1 : TV (bc_up M1 49 0 dp i) (bc_u s.1 dp i, s.2) := by
          obtain ⟨⟨v1, v2, v3⟩, v4, v5⟩ := hV
          refine ⟨⟨?_, ?_, ?_⟩, ?_, v5⟩
          · rw [up_kne (by decide), hRQ.2.1 41 (by decide)]; exact v1
          · rw [up_kne (by decide), hRQ.2.1 40 (by decide)]; exact v2
          · rw [up_kne (by decide), hRQ.1 50 0 (by omega)]; exact v3
          · rw [up_at, hRQ.1 49 0 (by omega), v4]
        have hcs := bs_cnt_sub hl.1 (i := i) (by omega) hb 16
        rw [if_pos (by omega)] at hcs
        have hlr := bs_clr_rng hl (i := i) (by omega) hb
        refine ist_5 eX9_tries_102 ?_
        refine wp_aload_n eX9_tries_104 rfl ?_
        refine gf_X9_59 eX9_tries_105 ?_
        refine wp_iload_n eX9_tries_108 rfl ?_
        refine wp_iload eX9_tries_109 rfl ?_
        refine as_49 eX9_tries_111 ?_
        refine wp_aload_n eX9_tries_112 rfl ?_
        refine wp_iload_n eX9_tries_113 rfl ?_
        refine wp_iload_n eX9_tries_114 rfl ?_
        refine wp_iconst eX9_tries_115 ?_
        refine wp_iload eX9_tries_116 rfl ?_
        refine wp_ishl eX9_tries_118 ?_
        rw [bs_shl1 ⟨by omega, by omega⟩]
        refine wp_isub eX9_tries_119 ?_
        refine wp_iload_n eX9_tries_120 rfl ?_
        refine wp_iconst eX9_tries_121 ?_
        refine wp_iadd eX9_tries_122 ?_
        refine c_X9_377 eX9_tries_123 (ct_tr3 (n := n + 1) hc hlr (by omega) (by omega) (by omega) hms1 hML1 ⟨by rw [up_kne (by decide), hRQ.1 36 0 (by omega), hT.1 36 0 (by omega)]; exact hcap.1, hcap.2⟩ ⟨by rw [up_kne (by decide), hRQ.1 37 0 (by omega), hT.1 37 0 (by omega)]; exact hpol.1, hpol.2⟩ (by rw [emc1]; exact hQ1) hV1 (fun M2 hT2 hV2 => ?_))
        rw [emc1] at hV2
        refine wp_aload_n eX9_tries_126 rfl ?_
        refine wp_iload_n eX9_tries_127 rfl ?_
        refine c_X9_344 eX9_tries_128 (ct_takeBack (by omega) ?_)
        have eB : cpF (M2 34 0) (fun q => M2 40 0 (206 * dp + q)) 0 206 = M0 34 0 := by
          funext q
          unfold cpF
          by_cases h9 : 0 ≤ q ∧ q < 0 + 206
          · rw [if_pos h9]
            show M2 40 0 (206 * dp + (q - 0)) = M0 34 0 q
            rw [hT2.2.2 _ (by omega), up_kne (by decide), hRQ.1 40 0 (by omega), show 206 * dp + (q - 0) = 206 * dp + q by omega, hA q (by omega) (by omega)]
          · rw [if_neg h9, hT2.1 34 0 (by omega), up_kne (by decide), e34]
            unfold cpF
            rw [if_neg (by omega)]
        rw [eB]
        have hT3 : TP M0 (bc_row M2 34 0 (M0 34 0)) dp := by
          refine ⟨fun k9 j9 h9 => ?_, fun f a b d => ?_, fun q h9 => ?_⟩
          · by_cases e : k9 = 34 ∧ j9 = 0
            · rw [e.1, e.2, row_at]
            · have e2 : ∀ g9, bc_row M2 34 0 g9 k9 j9 = M2 k9 j9 := fun g9 => by simp only [bc_row, if_neg e]
              have e3 : bc_up M1 49 0 dp i k9 j9 = M1 k9 j9 := by simp only [bc_up, if_neg (show ¬ (k9 = 49 ∧ j9 = 0) by omega)]
              rw [e2, hT2.1 k9 j9 h9, e3, hRQ.1 k9 j9 (by omega), hT.1 k9 j9 h9]
          · rw [row_kne (by decide), hT2.2.1 f a b d, up_kne (by decide), hRQ.2.1 f a, hT.2.1 f a b d]
          · rw [row_kne (by decide), hT2.2.2 q (by omega), up_kne (by decide), hRQ.1 40 0 (by omega), hT.2.2 q h9]
        have hA3 : ∀ q, 0 ≤ q → q < 206 → bc_row M2 34 0 (M0 34 0) 40 0 (206 * dp + q) = M0 34 0 q := fun q a b => by
          rw [row_kne (by decide), hT2.2.2 _ (by omega), up_kne (by decide), hRQ.1 40 0 (by omega)]; exact hA q a b
        have hV3 : TV (bc_row M2 34 0 (M0 34 0)) (ptR (qG cap pol ni pop dk fr (sW dk fr nd ni sg ln) (sL dk fr nd ni sg ln)) ni 3 (left - ((2 ^ i.toNat : Nat) : Int)) (dp + 1) ((qG cap pol ni pop dk fr (sW dk fr nd ni sg ln) (sL dk fr nd ni sg ln)) (mc M0 c) i) (bc_u s.1 dp i, s.2)) := by
          unfold TV at hV2 ⊢
          rw [row_kne (k' := 33) (by decide), row_kne (k' := 50) (by decide), row_kne (k' := 49) (by decide)]
          exact hV2
        refine inc_4 eX9_tries_131 ?_
        refine wp_goto eX9_tries_134 ?_
        first
        | exact ih (i + 1) _ _ _ (by omega) (by omega) hT3 hA3 hV3 k
        | exact ih (i + 1) s Mc _ (by omega) (by omega) hT hA hV k
set_option maxHeartbeats 1000000 in
theorem ct_tr4 {G : bc_G} {M : bc_M} {post : bc_R → bc_M → Prop} {dk fr pop bnd : Int → Int} {nd ni sg ln c n cap pol : Int} (hc : 0 ≤ c ∧ c < 4) {left dp : Int} (hl : 0 ≤ left ∧ left < 65536) (hcnt : bs_cnt left 16 = 4) (hdp : 0 ≤ dp ∧ dp + 4 ≤ 5) (hn : 0 ≤ n ∧ n + 4 ≤ 5000) (hs : MS M dk fr pop bnd nd ni sg ln) (hML : ML M dk fr nd ni sg ln) (hcap : M 36 0 c = cap ∧ 0 ≤ cap ∧ cap ≤ 4) (hpol : M 37 0 c = pol ∧ 0 ≤ pol ∧ pol ≤ 2) (hq : QI (mc M c) ni n) {s : (Int → Int) × (Bool × Int × (Int → Int))} (hV : TV M s) (k : ∀ M' : bc_M, TP M M' dp → TV M' (ptR (qG cap pol ni pop dk fr (sW dk fr nd ni sg ln) (sL dk fr nd ni sg ln)) ni 4 left dp (mc M c) s) → post (.inr none) M') : bc_Call G yX9_tries cX9_tries 6 none 9 0 [vR G 33 0, vI c, vI left, vI dp] M post := by
  have hni := hs.1.2.1
  refine bc_enter (L := [some (vR G 33 0), some (vI c), some (vI left), some (vI dp), none, none]) (by decide) rfl rfl ?_
  refine wp_iload_n eX9_tries_0 rfl ?_
  refine wp_if_ne eX9_tries_1 (fun c1 => ?_) (fun c1 => ?_)
  · refine wp_aload_n eX9_tries_69 rfl ?_
    refine wp_iload_n eX9_tries_70 rfl ?_
    refine c_X9_341 eX9_tries_71 (ct_putAside (by omega) ?_)
    refine wp_iconst eX9_tries_74 ?_
    refine ist_4 eX9_tries_75 ?_
    have hT0 : TP M (bc_row M 40 0 (cpF (M 40 0) (M 34 0) (206 * dp) 206)) dp := ⟨row_fr.mono (fun k9 j9 q => by unfold at1 at q; exact ⟨by omega, q.2⟩), fun f _ _ _ => by rw [row_kne (by decide)], fun q h9 => by rw [row_at]; unfold cpF; rw [if_neg (by omega)]⟩
    refine lp_tr4 (n := n) (cap := cap) (pol := pol) hc hl hcnt hdp hn hs hML hcap hpol hq ni.toNat 0 s (bc_row M 40 0 (cpF (M 40 0) (M 34 0) (206 * dp) 206)) none (by omega) (by omega) hT0 (fun q a b => ?_) ?_ (fun M' a b => k M' a b)
    · rw [row_at]
      unfold cpF
      rw [if_pos (by omega), show 206 * dp + q - 206 * dp = q by omega]
    · unfold TV at hV ⊢
      rw [row_kne (k' := 33) (by decide), row_kne (k' := 50) (by decide), row_kne (k' := 49) (by decide)]
      exact hV
  · have h9 : bs_cnt left 16 = 0 := by rw [show left = 0 by omega]; decide
    omega
set_option maxHeartbeats 2000000 in
theorem lp_tr5 {G : bc_G} {post : bc_R → bc_M → Prop} {dk fr pop bnd : Int → Int} {nd ni sg ln c n cap pol : Int} (hc : 0 ≤ c ∧ c < 4) {M0 : bc_M} {left dp : Int} (hl : 0 ≤ left ∧ left < 65536) (hcnt : bs_cnt left 16 = 5) (hdp : 0 ≤ dp ∧ dp + 5 ≤ 5) (hn : 0 ≤ n ∧ n + 5 ≤ 5000) (hs : MS M0 dk fr pop bnd nd ni sg ln) (hML : ML M0 dk fr nd ni sg ln) (hcap : M0 36 0 c = cap ∧ 0 ≤ cap ∧ cap ≤ 4) (hpol : M0 37 0 c = pol ∧ 0 ≤ pol ∧ pol ≤ 2) (hq : QI (mc M0 c) ni n) : ∀ (n9 : Nat) (i : Int) (s : (Int → Int) × (Bool × Int × (Int → Int))) (Mc : bc_M) (y : Option Value) (h1 : i + n9 = ni) (h2 : 0 ≤ i) (hT : TP M0 Mc dp) (hA : ∀ q, 0 ≤ q → q < 206 → Mc 40 0 (206 * dp + q) = M0 34 0 q) (hV : TV Mc s) (k : ∀ M' : bc_M, TP M0 M' dp → TV M' (ptL (fun i => ptR (qG cap pol ni pop dk fr (sW dk fr nd ni sg ln) (sL dk fr nd ni sg ln)) ni 4 (left - ((2 ^ i.toNat : Nat) : Int)) (dp + 1) ((qG cap pol ni pop dk fr (sW dk fr nd ni sg ln) (sL dk fr nd ni sg ln)) (mc M0 c) i)) left dp n9 i s) → post (.inr none) M'), bc_W G RX9 cX9_tries 6 none 10 0 0 77 [some (vR G 33 0), some (vI c), some (vI left), some (vI dp), some (vI i), y] [] Mc post := by
  intro n9
  induction n9 with
  | zero =>
    intro i s Mc y h1 h2 hT hA hV k
    have hni := hs.1.2.1
    have hmsc := hT.ms hs
    have hMLc := hT.ml hML
    have emc : mc Mc c = mc M0 c := by funext f; unfold mc; rw [hT.1 34 0 (by omega)]
    refine wp_iload eX9_tries_77 rfl ?_
    refine wp_aload_n eX9_tries_79 rfl ?_
    refine gf_X9_79 eX9_tries_80 ?_
    rw [hmsc.2.1.2]
    refine wp_icmp_ge eX9_tries_83 (fun c83 => ?_) (fun c83 => ?_)
    · simp only [ptL] at k
      refine wp_return eX9_tries_137 ?_
      exact k Mc hT hV
    · omega
  | succ n9 ih =>
    intro i s Mc y h1 h2 hT hA hV k
    have hni := hs.1.2.1
    have hmsc := hT.ms hs
    have hMLc := hT.ml hML
    have emc : mc Mc c = mc M0 c := by funext f; unfold mc; rw [hT.1 34 0 (by omega)]
    refine wp_iload eX9_tries_77 rfl ?_
    refine wp_aload_n eX9_tries_79 rfl ?_
    refine gf_X9_79 eX9_tries_80 ?_
    rw [hmsc.2.1.2]
    refine wp_icmp_ge eX9_tries_83 (fun c83 => ?_) (fun c83 => ?_)
    · omega
    · refine wp_iload_n eX9_tries_86 rfl ?_
      refine wp_iload eX9_tries_87 rfl ?_
      refine c_X9_211 eX9_tries_89 (ct_has ?_)
      refine wp_if_eq eX9_tries_92 (fun c92 => ?_) (fun c92 => ?_) (by split <;> omega)
      · have hb : ¬ bs left i = true := by
          intro h
          rw [h] at c92
          exact absurd c92 (by decide)
        simp only [ptL] at k
        rw [if_neg hb] at k
        refine inc_4 eX9_tries_131 ?_
        refine wp_goto eX9_tries_134 ?_
        first
        | exact ih (i + 1) _ _ _ (by omega) (by omega) hT3 hA3 hV3 k
        | exact ih (i + 1) s Mc _ (by omega) (by omega) hT hA hV k
      · have hb : bs left i = true := by
          cases h : bs left i
          · rw [h] at c92; exact absurd rfl c92
          · rfl
        simp only [ptL] at k
        rw [if_pos hb] at k
        refine wp_aload_n eX9_tries_95 rfl ?_
        refine wp_iload_n eX9_tries_96 rfl ?_
        refine wp_iload eX9_tries_97 rfl ?_
        refine c_X9_279 eX9_tries_99 (ct_requests1 hmsc hMLc hc (i := i) (by omega) ⟨by rw [hT.1 36 0 (by omega)]; exact hcap.1, hcap.2⟩ ⟨by rw [hT.1 37 0 (by omega)]; exact hpol.1, hpol.2⟩ (by rw [emc]; exact hq) (by omega) (fun M1 hRQ => ?_))
        rw [emc] at hRQ
        have hQ1 := QI.st (cap := cap) (pol := pol) (pop := pop) (W := sW dk fr nd ni sg ln) (L := sL dk fr nd ni sg ln) hs.1 hq (i := i) (by omega) (sW_rng hs.1 (by omega)).1 (sW_rng hs.1 (by omega)).2
        have e34 : M1 34 0 = cpF (M0 34 0) ((qG cap pol ni pop dk fr (sW dk fr nd ni sg ln) (sL dk fr nd ni sg ln)) (mc M0 c) i) (54 + 38 * c) 38 := by rw [hRQ.2.2.2, hT.1 34 0 (by omega)]
        have emc1 : mc (bc_up M1 49 0 dp i) c = (qG cap pol ni pop dk fr (sW dk fr nd ni sg ln) (sL dk fr nd ni sg ln)) (mc M0 c) i := by
          funext f
          unfold mc
          rw [up_kne (by decide), e34]
          unfold cpF
          by_cases hf : 54 + 38 * c ≤ 54 + 38 * c + f ∧ 54 + 38 * c + f < 54 + 38 * c + 38
          · rw [if_pos hf, show 54 + 38 * c + f - (54 + 38 * c) = f by omega]; rfl
          · rw [if_neg hf]
            exact (qG_out (g := mc M0 c) (by omega) (by omega)).symm
        have hms1 : MS (bc_up M1 49 0 dp i) dk fr pop bnd nd ni sg ln := by
          refine up46_ms ?_ (by decide) (by decide)
          obtain ⟨a1, a2, a3, a4, a5, a6, a7⟩ := hs
          have e0 : ∀ q, q < 54 → M1 34 0 q = M0 34 0 q := fun q hq9 => by rw [e34]; unfold cpF; rw [if_neg (by omega)]
          refine ⟨a1, ⟨by rw [hRQ.2.1 5 (by decide), hT.2.1 5 (by decide) (by decide) (by decide)]; exact a2.1, by rw [hRQ.2.1 6 (by decide), hT.2.1 6 (by decide) (by decide) (by decide)]; exact a2.2⟩, fun q x y => by rw [e0 _ (by omega)]; exact a3 q x y, fun q x y => by rw [e0 _ (by omega)]; exact a4 q x y, by rw [e0 _ (by omega), e0 _ (by omega)]; exact a5, fun q x y => by rw [e0 _ (by omega), e0 _ (by omega)]; exact a6 q x y, a7⟩
        have hML1 : ML (bc_up M1 49 0 dp i) dk fr nd ni sg ln := by
          unfold ML at hMLc ⊢
          rw [up_kne (k' := 33) (by decide), up_kne (k' := 41) (by decide), up_kne (k' := 42) (by decide), hRQ.1 41 0 (by omega), hRQ.1 42 0 (by omega), hRQ.2.1 25 (by decide), hRQ.2.1 27 (by decide)]
          exact hMLc
        have hV1 : TV (bc_up M1 49 0 dp i) (bc_u s.1 dp i, s.2) := by
          obtain ⟨⟨v1, v2, v3⟩, v4, v5⟩ := hV
          refine ⟨⟨?_, ?_, ?_⟩, ?_, v5⟩
          · rw [up_kne (by decide), hRQ.2.1 41 (by decide)]; exact v1
          · rw [up_kne (by decide), hRQ.2.1 40 (by decide)]; exact v2
          · rw [up_kne (by decide), hRQ.1 50 0 (by omega)]; exact v3
          · rw [up_at, hRQ.1 49 0 (by omega), v4]
        have hcs := bs_cnt_sub hl.1 (i := i) (by omega) hb 16
        rw [if_pos (by omega)] at hcs
        have hlr := bs_clr_rng hl (i := i) (by omega) hb
        refine ist_5 eX9_tries_102 ?_
        refine wp_aload_n eX9_tries_104 rfl ?_
        refine gf_X9_59 eX9_tries_105 ?_
        refine wp_iload_n eX9_tries_108 rfl ?_
        refine wp_iload eX9_tries_109 rfl ?_
        refine as_49 eX9_tries_111 ?_
        refine wp_aload_n eX9_tries_112 rfl ?_
        refine wp_iload_n eX9_tries_113 rfl ?_
        refine wp_iload_n eX9_tries_114 rfl ?_
        refine wp_iconst eX9_tries_115 ?_
        refine wp_iload eX9_tries_116 rfl ?_
        refine wp_ishl eX9_tries_118 ?_
        rw [bs_shl1 ⟨by omega, by omega⟩]
        refine wp_isub eX9_tries_119 ?_
        refine wp_iload_n eX9_tries_120 rfl ?_
        refine wp_iconst eX9_tries_121 ?_
        refine wp_iadd eX9_tries_122 ?_
        refine c_X9_377 eX9_tries_123 (ct_tr4 (n := n + 1) hc hlr (by omega) (by omega) (by omega) hms1 hML1 ⟨by rw [up_kne (by decide), hRQ.1 36 0 (by omega), hT.1 36 0 (by omega)]; exact hcap.1, hcap.2⟩ ⟨by rw [up_kne (by decide), hRQ.1 37 0 (by omega), hT.1 37 0 (by omega)]; exact hpol.1, hpol.2⟩ (by rw [emc1]; exact hQ1) hV1 (fun M2 hT2 hV2 => ?_))
        rw [emc1] at hV2
        refine wp_aload_n eX9_tries_126 rfl ?_
        refine wp_iload_n eX9_tries_127 rfl ?_
        refine c_X9_344 eX9_tries_128 (ct_takeBack (by omega) ?_)
        have eB : cpF (M2 34 0) (fun q => M2 40 0 (206 * dp + q)) 0 206 = M0 34 0 := by
          funext q
          unfold cpF
          by_cases h9 : 0 ≤ q ∧ q < 0 + 206
          · rw [if_pos h9]
            show M2 40 0 (206 * dp + (q - 0)) = M0 34 0 q
            rw [hT2.2.2 _ (by omega), up_kne (by decide), hRQ.1 40 0 (by omega), show 206 * dp + (q - 0) = 206 * dp + q by omega, hA q (by omega) (by omega)]
          · rw [if_neg h9, hT2.1 34 0 (by omega), up_kne (by decide), e34]
            unfold cpF
            rw [if_neg (by omega)]
        rw [eB]
        have hT3 : TP M0 (bc_row M2 34 0 (M0 34 0)) dp := by
          refine ⟨fun k9 j9 h9 => ?_, fun f a b d => ?_, fun q h9 => ?_⟩
          · by_cases e : k9 = 34 ∧ j9 = 0
            · rw [e.1, e.2, row_at]
            · have e2 : ∀ g9, bc_row M2 34 0 g9 k9 j9 = M2 k9 j9 := fun g9 => by simp only [bc_row, if_neg e]
              have e3 : bc_up M1 49 0 dp i k9 j9 = M1 k9 j9 := by simp only [bc_up, if_neg (show ¬ (k9 = 49 ∧ j9 = 0) by omega)]
              rw [e2, hT2.1 k9 j9 h9, e3, hRQ.1 k9 j9 (by omega), hT.1 k9 j9 h9]
          · rw [row_kne (by decide), hT2.2.1 f a b d, up_kne (by decide), hRQ.2.1 f a, hT.2.1 f a b d]
          · rw [row_kne (by decide), hT2.2.2 q (by omega), up_kne (by decide), hRQ.1 40 0 (by omega), hT.2.2 q h9]
        have hA3 : ∀ q, 0 ≤ q → q < 206 → bc_row M2 34 0 (M0 34 0) 40 0 (206 * dp + q) = M0 34 0 q := fun q a b => by
          rw [row_kne (by decide), hT2.2.2 _ (by omega), up_kne (by decide), hRQ.1 40 0 (by omega)]; exact hA q a b
        have hV3 : TV (bc_row M2 34 0 (M0 34 0)) (ptR (qG cap pol ni pop dk fr (sW dk fr nd ni sg ln) (sL dk fr nd ni sg ln)) ni 4 (left - ((2 ^ i.toNat : Nat) : Int)) (dp + 1) ((qG cap pol ni pop dk fr (sW dk fr nd ni sg ln) (sL dk fr nd ni sg ln)) (mc M0 c) i) (bc_u s.1 dp i, s.2)) := by
          unfold TV at hV2 ⊢
          rw [row_kne (k' := 33) (by decide), row_kne (k' := 50) (by decide), row_kne (k' := 49) (by decide)]
          exact hV2
        refine inc_4 eX9_tries_131 ?_
        refine wp_goto eX9_tries_134 ?_
        first
        | exact ih (i + 1) _ _ _ (by omega) (by omega) hT3 hA3 hV3 k
        | exact ih (i + 1) s Mc _ (by omega) (by omega) hT hA hV k
set_option maxHeartbeats 1000000 in
theorem ct_tr5 {G : bc_G} {M : bc_M} {post : bc_R → bc_M → Prop} {dk fr pop bnd : Int → Int} {nd ni sg ln c n cap pol : Int} (hc : 0 ≤ c ∧ c < 4) {left dp : Int} (hl : 0 ≤ left ∧ left < 65536) (hcnt : bs_cnt left 16 = 5) (hdp : 0 ≤ dp ∧ dp + 5 ≤ 5) (hn : 0 ≤ n ∧ n + 5 ≤ 5000) (hs : MS M dk fr pop bnd nd ni sg ln) (hML : ML M dk fr nd ni sg ln) (hcap : M 36 0 c = cap ∧ 0 ≤ cap ∧ cap ≤ 4) (hpol : M 37 0 c = pol ∧ 0 ≤ pol ∧ pol ≤ 2) (hq : QI (mc M c) ni n) {s : (Int → Int) × (Bool × Int × (Int → Int))} (hV : TV M s) (k : ∀ M' : bc_M, TP M M' dp → TV M' (ptR (qG cap pol ni pop dk fr (sW dk fr nd ni sg ln) (sL dk fr nd ni sg ln)) ni 5 left dp (mc M c) s) → post (.inr none) M') : bc_Call G yX9_tries cX9_tries 6 none 10 0 [vR G 33 0, vI c, vI left, vI dp] M post := by
  have hni := hs.1.2.1
  refine bc_enter (L := [some (vR G 33 0), some (vI c), some (vI left), some (vI dp), none, none]) (by decide) rfl rfl ?_
  refine wp_iload_n eX9_tries_0 rfl ?_
  refine wp_if_ne eX9_tries_1 (fun c1 => ?_) (fun c1 => ?_)
  · refine wp_aload_n eX9_tries_69 rfl ?_
    refine wp_iload_n eX9_tries_70 rfl ?_
    refine c_X9_341 eX9_tries_71 (ct_putAside (by omega) ?_)
    refine wp_iconst eX9_tries_74 ?_
    refine ist_4 eX9_tries_75 ?_
    have hT0 : TP M (bc_row M 40 0 (cpF (M 40 0) (M 34 0) (206 * dp) 206)) dp := ⟨row_fr.mono (fun k9 j9 q => by unfold at1 at q; exact ⟨by omega, q.2⟩), fun f _ _ _ => by rw [row_kne (by decide)], fun q h9 => by rw [row_at]; unfold cpF; rw [if_neg (by omega)]⟩
    refine lp_tr5 (n := n) (cap := cap) (pol := pol) hc hl hcnt hdp hn hs hML hcap hpol hq ni.toNat 0 s (bc_row M 40 0 (cpF (M 40 0) (M 34 0) (206 * dp) 206)) none (by omega) (by omega) hT0 (fun q a b => ?_) ?_ (fun M' a b => k M' a b)
    · rw [row_at]
      unfold cpF
      rw [if_pos (by omega), show 206 * dp + q - 206 * dp = q by omega]
    · unfold TV at hV ⊢
      rw [row_kne (k' := 33) (by decide), row_kne (k' := 50) (by decide), row_kne (k' := 49) (by decide)]
      exact hV
  · have h9 : bs_cnt left 16 = 0 := by rw [show left = 0 by omega]; decide
    omega
