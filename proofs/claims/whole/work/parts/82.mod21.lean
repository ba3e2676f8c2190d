def wfW (W : Int → Int → Int) (s t : Int) : Nat → Int → Int → Int
  | 0, _, w => w
  | n + 1, i, w => wfW W s t n (i + 1) (if bs s i = true then w + W i t else w)
def mo_wt (g : Int → Int) : Nat → Int → Int → Int
  | 0, _, b => b
  | n + 1, t, b => mo_wt g n (t + 1) (if g b < g t then t else b)
def LW (M M' : bc_M) : Prop := Fr (fun k' j' => lyP k' j' ∨ (k' = 48 ∧ j' = 0)) M M' ∧ ∀ f, f ≠ 25 → f ≠ 27 → M' 33 0 f = M 33 0 f
theorem LW.ly {M M1 M2 : bc_M} (h : LW M M1) (h2 : LY M1 M2) : LW M M2 := ⟨Fr.tr h.1 (h2.1.mono (fun _ _ q => Or.inl q)), fun f a b => (h2.2 f a b).trans (h.2 f a b)⟩
theorem LW.row {M M1 : bc_M} {g : Int → Int} (h : LW M M1) : LW M (bc_row M1 48 0 g) := ⟨Fr.tr h.1 (row_fr.mono (fun k j q => by unfold at1 at q; omega)), fun f a b => by rw [row_kne (by decide)]; exact h.2 f a b⟩
theorem LW.ms {M M' : bc_M} {dk fr pop bnd : Int → Int} {nd ni sg ln : Int} (h : LW M M') (hs : MS M dk fr pop bnd nd ni sg ln) : MS M' dk fr pop bnd nd ni sg ln := by
  unfold MS at hs ⊢
  rw [h.1 34 0 (by unfold lyP; omega), h.2 5 (by decide) (by decide), h.2 6 (by decide) (by decide)]
  exact hs
theorem QM.lw {M M1 M2 : bc_M} (h : QM M M1) (h2 : LW M1 M2) : QM M M2 := ⟨Fr.tr h.1 (h2.1.mono (fun k j q => by unfold lyP at q; unfold mqP; omega)), fun f a b => (h2.2 f (by omega) (by omega)).trans (h.2.1 f a b), (h2.2 4 (by decide) (by decide)).trans h.2.2⟩
theorem wfW_rng {W : Int → Int → Int} {s t ni : Int} (hW : ∀ i, 0 ≤ i → i < ni → 0 ≤ W i t ∧ W i t ≤ 9000) : ∀ (n : Nat) (i w B : Int), 0 ≤ i → i + n ≤ ni → (0 ≤ w ∧ w ≤ B) → 0 ≤ wfW W s t n i w ∧ wfW W s t n i w ≤ B + n * 9000
  | 0, _, w, B, _, _, h => by simp only [wfW]; omega
  | n + 1, i, w, B, h1, h2, h => by
    simp only [wfW]
    have := hW i h1 (by omega)
    have := wfW_rng (s := s) hW n (i + 1) (if bs s i = true then w + W i t else w) (B + 9000) (by omega) (by omega) (by split <;> omega)
    omega
theorem lp_wtFill {G : bc_G} {M : bc_M} {post : bc_R → bc_M → Prop} {len s : Int} {g : Int → Int} (e27 : M 33 0 27 = len) (hlen : 1 ≤ len ∧ len ≤ 400) : ∀ (n : Nat) (v : Int) (h1 : v + n = len) (h2 : 0 ≤ v) (k : bc_W G RX9 cX9_worstTime 4 (some .int) 12 0 0 41 [some (vR G 33 0), some (vI s), some (vI len), none] [] (bc_row M 48 0 (cpF g (fun _ => 0) 0 len)) post), bc_W G RX9 cX9_worstTime 4 (some .int) 12 0 0 20 [some (vR G 33 0), some (vI s), some (vI v), none] [] (bc_row M 48 0 (cpF g (fun _ => 0) 0 v)) post := by
  intro n
  induction n with
  | zero =>
    intro v h1 h2 k
    refine wp_iload_n eX9_worstTime_20 rfl ?_
    refine wp_aload_n eX9_worstTime_21 rfl ?_
    refine gf_X9_231 eX9_worstTime_22 ?_
    rw [row_kne (by decide), e27]
    refine wp_icmp_ge eX9_worstTime_25 (fun c25 => ?_) (fun c25 => ?_)
    · have hv : v = len := by omega
      subst hv
      exact k
    · omega
  | succ n ih =>
    intro v h1 h2 k
    refine wp_iload_n eX9_worstTime_20 rfl ?_
    refine wp_aload_n eX9_worstTime_21 rfl ?_
    refine gf_X9_231 eX9_worstTime_22 ?_
    rw [row_kne (by decide), e27]
    refine wp_icmp_ge eX9_worstTime_25 (fun c25 => ?_) (fun c25 => ?_)
    · omega
    · refine wp_aload_n eX9_worstTime_28 rfl ?_
      refine gf_X9_56 eX9_worstTime_29 ?_
      refine wp_iload_n eX9_worstTime_32 rfl ?_
      refine wp_iconst eX9_worstTime_33 ?_
      refine as_48 eX9_worstTime_34 ?_
      refine inc_2 eX9_worstTime_35 ?_
      refine wp_goto eX9_worstTime_38 ?_
      rw [up_row]
      have e9 := cpF_st (g := g) (h := fun _ => 0) (b := 0) (n := v) h2
      rw [Int.zero_add] at e9
      rw [e9]
      exact ih (v + 1) (by omega) (by omega) k
theorem lp_wtIn {G : bc_G} {M : bc_M} {post : bc_R → bc_M → Prop} {dk fr pop bnd : Int → Int} {nd ni sg ln i : Int} (hs : MS M dk fr pop bnd nd ni sg ln) (hML : ML M dk fr nd ni sg ln) (hi : 0 ≤ i ∧ i < ni) (e43 : ∀ t, 0 ≤ t → t < sp_S dk fr nd ni + sg * ln → M 43 0 t = sp_far (M 42 0) i (sp_S dk fr nd ni + sg * ln) t) (e44 : ∀ t, 0 ≤ t → t < sp_S dk fr nd ni + sg * ln → M 44 0 t = sp_far (M 42 0) (-3) (sp_S dk fr nd ni + sg * ln) t) {s : Int} {g : Int → Int} (hg : ∀ t, 0 ≤ t → t < sp_S dk fr nd ni + sg * ln → 0 ≤ g t ∧ g t ≤ 1000000) : ∀ (n : Nat) (v : Int) (h1 : v + n = sp_S dk fr nd ni + sg * ln) (h2 : 0 ≤ v) (k : bc_W G RX9 cX9_worstTime 4 (some .int) 12 0 0 94 [some (vR G 33 0), some (vI s), some (vI i), some (vI (sp_S dk fr nd ni + sg * ln))] [] (bc_row M 48 0 (cpF g (fun t => g t + sW dk fr nd ni sg ln i t) 0 (sp_S dk fr nd ni + sg * ln))) post), bc_W G RX9 cX9_worstTime 4 (some .int) 12 0 0 66 [some (vR G 33 0), some (vI s), some (vI i), some (vI v)] [] (bc_row M 48 0 (cpF g (fun t => g t + sW dk fr nd ni sg ln i t) 0 v)) post := by
  intro n
  induction n with
  | zero =>
    intro v h1 h2 k
    have hlen := hML.len hs.1
    refine wp_iload_n eX9_worstTime_66 rfl ?_
    refine wp_aload_n eX9_worstTime_67 rfl ?_
    refine gf_X9_231 eX9_worstTime_68 ?_
    rw [row_kne (by decide), hML.1.2]
    refine wp_icmp_ge eX9_worstTime_71 (fun c71 => ?_) (fun c71 => ?_)
    · have hv : v = sp_S dk fr nd ni + sg * ln := by omega
      subst hv
      exact k
    · omega
  | succ n ih =>
    intro v h1 h2 k
    have hlen := hML.len hs.1
    refine wp_iload_n eX9_worstTime_66 rfl ?_
    refine wp_aload_n eX9_worstTime_67 rfl ?_
    refine gf_X9_231 eX9_worstTime_68 ?_
    rw [row_kne (by decide), hML.1.2]
    refine wp_icmp_ge eX9_worstTime_71 (fun c71 => ?_) (fun c71 => ?_)
    · omega
    · refine wp_aload_n eX9_worstTime_74 rfl ?_
      refine gf_X9_56 eX9_worstTime_75 ?_
      refine wp_iload_n eX9_worstTime_78 rfl ?_
      refine wp_dup2 eX9_worstTime_79 ?_
      refine al_48 eX9_worstTime_80 ?_
      rw [row_at, show cpF g (fun t => g t + sW dk fr nd ni sg ln i t) 0 v v = g v by unfold cpF; rw [if_neg (by omega)]]
      have hgv := hg v h2 (by omega)
      refine wp_aload_n eX9_worstTime_81 rfl ?_
      refine wp_iload_n eX9_worstTime_82 rfl ?_
      refine c_X9_251 eX9_worstTime_83 (ct_accessAt (p := M 42 0) (x := i) hlen (by rw [row_kne (by decide)]; exact hML.1.2) (by rw [row_kne (by decide)]; exact hs.2.2.2.2.1.1) (by rw [row_kne (by decide)]; exact hs.2.2.2.2.1.2) hs.1.2.2.1 hs.1.2.2.2.1 (by rw [row_kne (by decide)]; exact e43) (by rw [row_kne (by decide)]; exact e44) (t := v) (by omega) ?_)
      rw [(acc_at hs.1 hML.2.1 hML.2.2 hi ⟨h2, by omega⟩).1, show pg_wait (spM dk fr nd ni sg ln) 0 i v = sW dk fr nd ni sg ln i v from rfl]
      refine wp_iadd eX9_worstTime_86 ?_
      refine as_48 eX9_worstTime_87 ?_
      refine inc_3 eX9_worstTime_88 ?_
      refine wp_goto eX9_worstTime_91 ?_
      rw [up_row]
      have e9 := cpF_st (g := g) (h := (fun t => g t + sW dk fr nd ni sg ln i t)) (b := 0) (n := v) h2
      rw [Int.zero_add] at e9
      rw [e9]
      exact ih (v + 1) (by omega) (by omega) k
set_option maxHeartbeats 1000000 in
theorem lp_wtOut {G : bc_G} {post : bc_R → bc_M → Prop} {dk fr pop bnd : Int → Int} {nd ni sg ln s : Int} {M0 : bc_M} (hs : MS M0 dk fr pop bnd nd ni sg ln) (hsr : 0 ≤ s ∧ s < 65536) : ∀ (n : Nat) (i : Int) (w : Int → Int) (Mc : bc_M) (y : Option Value) (h1 : i + n = ni) (h2 : 0 ≤ i) (hLW : LW M0 Mc) (hML : ML Mc dk fr nd ni sg ln) (hwr : ∀ t, 0 ≤ t → t < sp_S dk fr nd ni + sg * ln → 0 ≤ w t ∧ w t ≤ 9000 * i) (hw : ∀ t, 0 ≤ t → t < sp_S dk fr nd ni + sg * ln → Mc 48 0 t = w t) (k : ∀ (M' : bc_M) (y9 : Option Value), LW M0 M' → ML M' dk fr nd ni sg ln → (∀ t, 0 ≤ t → t < sp_S dk fr nd ni + sg * ln → M' 48 0 t = wfW (sW dk fr nd ni sg ln) s t n i (w t)) → bc_W G RX9 cX9_worstTime 4 (some .int) 12 0 0 100 [some (vR G 33 0), some (vI s), some (vI ni), y9] [] M' post), bc_W G RX9 cX9_worstTime 4 (some .int) 12 0 0 43 [some (vR G 33 0), some (vI s), some (vI i), y] [] Mc post := by
  intro n
  induction n with
  | zero =>
    intro i w Mc y h1 h2 hLW hML hwr hw k
    have hms := hLW.ms hs
    have hni := hs.1.2.1
    have hlen := hML.len hs.1
    refine wp_iload_n eX9_worstTime_43 rfl ?_
    refine wp_aload_n eX9_worstTime_44 rfl ?_
    refine gf_X9_79 eX9_worstTime_45 ?_
    rw [hms.2.1.2]
    refine wp_icmp_ge eX9_worstTime_48 (fun c48 => ?_) (fun c48 => ?_)
    · have hi9 : i = ni := by omega
      subst hi9
      exact k _ _ hLW hML hw
    · omega
  | succ n ih =>
    intro i w Mc y h1 h2 hLW hML hwr hw k
    have hms := hLW.ms hs
    have hni := hs.1.2.1
    have hlen := hML.len hs.1
    refine wp_iload_n eX9_worstTime_43 rfl ?_
    refine wp_aload_n eX9_worstTime_44 rfl ?_
    refine gf_X9_79 eX9_worstTime_45 ?_
    rw [hms.2.1.2]
    refine wp_icmp_ge eX9_worstTime_48 (fun c48 => ?_) (fun c48 => ?_)
    · omega
    · refine wp_iload_n eX9_worstTime_51 rfl ?_
      refine wp_iload_n eX9_worstTime_52 rfl ?_
      refine c_X9_211 eX9_worstTime_53 (ct_has ?_)
      refine wp_if_eq eX9_worstTime_56 (fun c56 => ?_) (fun c56 => ?_) (by split <;> omega)
      · have hb : ¬ bs s i = true := by
          intro h
          rw [h] at c56
          exact absurd c56 (by decide)
        refine inc_2 eX9_worstTime_94 ?_
        refine wp_goto eX9_worstTime_97 ?_
        refine ih (i + 1) w Mc _ (by omega) (by omega) hLW hML (fun t a b => by have := hwr t a b; omega) hw (fun M9 y9 hLW9 hML9 hw9 => k M9 y9 hLW9 hML9 (fun t a b => ?_))
        rw [hw9 t a b]
        simp only [wfW]
        rw [if_neg hb]
      · have hb : bs s i = true := by
          cases h : bs s i
          · rw [h] at c56; exact absurd rfl c56
          · rfl
        refine wp_aload_n eX9_worstTime_59 rfl ?_
        refine wp_iload_n eX9_worstTime_60 rfl ?_
        refine c_X9_248 eX9_worstTime_61 (ct_lay (x := i) (p := Mc 42 0) (len := sp_S dk fr nd ni + sg * ln) hlen (by omega) hML.1.2 rfl (fun t a b => P_rng hs.1 hML.2.1 hML.2.2 ⟨a, b⟩) (fun M1 g1 g2 g3 => ?_))
        have hML1 : ML M1 dk fr nd ni sg ln := hML.rows (fun k9 h9 => g1 k9 0 (by omega))
        have hms1 := (LY.of g1).ms hms
        have e42 : M1 42 0 = Mc 42 0 := g1 42 0 (by omega)
        refine wp_iconst eX9_worstTime_64 ?_
        refine ist_3 eX9_worstTime_65 ?_
        have eW : bc_row M1 48 0 (cpF (M1 48 0) (fun t => M1 48 0 t + sW dk fr nd ni sg ln i t) 0 0) = M1 := by rw [cpF0, row_self]
        rw [← eW]
        refine lp_wtIn hms1 hML1 (i := i) (by omega) (by rw [e42]; exact g2) (by rw [e42]; exact g3) (fun t a b => ?_) (sp_S dk fr nd ni + sg * ln).toNat 0 (by omega) (by omega) ?_
        · rw [g1 48 0 (by omega), hw t a b]
          have := hwr t a b
          omega
        refine inc_2 eX9_worstTime_94 ?_
        refine wp_goto eX9_worstTime_97 ?_
        refine ih (i + 1) (fun t => w t + sW dk fr nd ni sg ln i t) _ _ (by omega) (by omega) (hLW.ly (LY.of g1)).row (hML1.rows (fun k9 h9 => row_kne (by omega))) (fun t a b => ?_) (fun t a b => ?_) (fun M9 y9 hLW9 hML9 hw9 => k M9 y9 hLW9 hML9 (fun t a b => ?_))
        · have q1 := (sW_rng (t := t) hs.1 (i := i) (by omega)).1
          have q2 := hwr t a b
          show 0 ≤ w t + sW dk fr nd ni sg ln i t ∧ w t + sW dk fr nd ni sg ln i t ≤ 9000 * (i + 1)
          omega
        · rw [row_at]
          unfold cpF
          rw [if_pos (by omega), show t - 0 = t by omega, g1 48 0 (by omega)]
          show Mc 48 0 t + sW dk fr nd ni sg ln i t = w t + sW dk fr nd ni sg ln i t
          rw [hw t a b]
        · rw [hw9 t a b]
          simp only [wfW]
          rw [if_pos hb]
theorem lp_wtFind {G : bc_G} {M : bc_M} {post : bc_R → bc_M → Prop} {len s : Int} {g : Int → Int} (e27 : M 33 0 27 = len) (hlen : 1 ≤ len ∧ len ≤ 400) (hg : ∀ t, 0 ≤ t → t < len → M 48 0 t = g t) (hgr : ∀ t, 0 ≤ t → t < len → 0 ≤ g t ∧ g t ≤ 1000000) : ∀ (n : Nat) (t b : Int) (h1 : t + n = len) (h2 : 0 ≤ t) (hb : 0 ≤ b ∧ b < len) (k : post (.inr (some (vI (mo_wt g n t b)))) M), bc_W G RX9 cX9_worstTime 4 (some .int) 12 0 0 104 [some (vR G 33 0), some (vI s), some (vI b), some (vI t)] [] M post := by
  intro n
  induction n with
  | zero =>
    intro t b h1 h2 hb k
    refine wp_iload_n eX9_worstTime_104 rfl ?_
    refine wp_aload_n eX9_worstTime_105 rfl ?_
    refine gf_X9_231 eX9_worstTime_106 ?_
    rw [e27]
    refine wp_icmp_ge eX9_worstTime_109 (fun c109 => ?_) (fun c109 => ?_)
    · simp only [mo_wt] at k
      refine wp_iload_n eX9_worstTime_139 rfl ?_
      refine wp_ireturn eX9_worstTime_140 ?_
      exact k
    · omega
  | succ n ih =>
    intro t b h1 h2 hb k
    refine wp_iload_n eX9_worstTime_104 rfl ?_
    refine wp_aload_n eX9_worstTime_105 rfl ?_
    refine gf_X9_231 eX9_worstTime_106 ?_
    rw [e27]
    refine wp_icmp_ge eX9_worstTime_109 (fun c109 => ?_) (fun c109 => ?_)
    · omega
    · refine wp_aload_n eX9_worstTime_112 rfl ?_
      refine gf_X9_56 eX9_worstTime_113 ?_
      refine wp_iload_n eX9_worstTime_116 rfl ?_
      refine al_48 eX9_worstTime_117 ?_
      rw [hg t h2 (by omega)]
      have q1 := hgr t h2 (by omega)
      refine wp_aload_n eX9_worstTime_118 rfl ?_
      refine gf_X9_56 eX9_worstTime_119 ?_
      refine wp_iload_n eX9_worstTime_122 rfl ?_
      refine al_48 eX9_worstTime_123 ?_
      rw [hg b hb.1 (by omega)]
      have q2 := hgr b hb.1 (by omega)
      refine wp_icmp_le eX9_worstTime_124 (fun c124 => ?_) (fun c124 => ?_)
      · simp only [mo_wt] at k
        rw [if_neg (by omega)] at k
        refine wp_iload_n eX9_worstTime_131 rfl ?_
        refine ist_2 eX9_worstTime_132 ?_
        refine inc_3 eX9_worstTime_133 ?_
        refine wp_goto eX9_worstTime_136 ?_
        exact ih (t + 1) _ (by omega) (by omega) (by omega) k
      · simp only [mo_wt] at k
        rw [if_pos (by omega)] at k
        refine wp_iload_n eX9_worstTime_127 rfl ?_
        refine wp_goto eX9_worstTime_128 ?_
        refine ist_2 eX9_worstTime_132 ?_
        refine inc_3 eX9_worstTime_133 ?_
        refine wp_goto eX9_worstTime_136 ?_
        exact ih (t + 1) _ (by omega) (by omega) (by omega) k
theorem ct_mWorstTime {G : bc_G} {M : bc_M} {post : bc_R → bc_M → Prop} {s : Int} {dk fr pop bnd : Int → Int} {nd ni sg ln : Int} (hI : M 33 0 3 = 1 → MS M dk fr pop bnd nd ni sg ln) (hl : M 33 0 3 = 0 ∨ M 33 0 3 = 1) (k1 : M 33 0 3 = 0 → post (.inr (some (vI 0))) (bc_up M 33 0 4 1)) (k2 : M 33 0 3 = 1 → (s < 1 ∨ p2 (M 33 0 6) ≤ s) → post (.inr (some (vI 0))) (bc_up M 33 0 4 2)) (k3 : M 33 0 3 = 1 → ¬ (s < 1 ∨ p2 (M 33 0 6) ≤ s) → ∀ M' : bc_M, QM M M' → post (.inr (some (vI (mo_wt (fun t => wfW (sW dk fr nd ni sg ln) s t ni.toNat 0 0) (sp_S dk fr nd ni + sg * ln - 1).toNat 1 0)))) M') (ha : 0 ≤ M 33 0 2 ∧ M 33 0 2 ≤ 10) (hit : 0 ≤ M 33 0 6 ∧ M 33 0 6 ≤ 16) (hdi : 0 ≤ M 33 0 5 ∧ M 33 0 5 ≤ 4) (hcl : 0 ≤ M 33 0 7 ∧ M 33 0 7 ≤ 4) (h_s : -2147483648 ≤ s ∧ s < 2147483648 := by omega) : bc_Call G yX9_worstTime cX9_worstTime 4 (some .int) 12 0 [vR G 33 0, vI s] M post := by
  refine bc_enter (L := [some (vR G 33 0), some (vI s), none, none]) (by decide) rfl rfl ?_
  refine wp_aload_n eX9_worstTime_0 rfl ?_
  refine wp_aload_n eX9_worstTime_1 rfl ?_
  refine wp_iload_n eX9_worstTime_2 rfl ?_
  refine c_X9_357 eX9_worstTime_3 (ct_isSet ?_)
  by_cases hb9 : 1 ≤ s ∧ s ≤ p2 (M 33 0 6) - 1
  · rw [if_pos hb9]
    refine c_X9_201 eX9_worstTime_6 (ct_mIsWrong ?_)
    rcases hl with hl0 | hl1
    · rw [show mo_thr M 1 = 1 by unfold mo_thr; rw [if_pos hl0]]
      refine wp_if_eq eX9_worstTime_9 (fun c9 => ?_) (fun c9 => ?_)
      · exact absurd c9 (by decide)
      · refine wp_iconst eX9_worstTime_12 ?_
        refine wp_ireturn eX9_worstTime_13 ?_
        exact k1 hl0
    · rw [show mo_thr M 1 = 0 by unfold mo_thr; rw [if_neg (by omega), if_neg (by decide)]]
      have hs0 := up_ms (f := 4) (v := 0) (hI hl1) (by decide) (by decide)
      have hs9 := hI hl1
      have hni := hs0.1.2.1
      have hnd := hs0.1.1
      have e6 := hs9.2.1.2
      have e5 := hs9.2.1.1
      refine wp_if_eq eX9_worstTime_9 (fun c9 => ?_) (fun c9 => ?_)
      · refine wp_aload_n eX9_worstTime_14 rfl ?_
        refine c_X9_242 eX9_worstTime_15 (ct_layP hs0 (fun M1 hLY hML => ?_))
        have hq1 := QM.b0.ly hLY
        have hlen := hML.len hs0.1
        have hs1 := hLY.ms hs0
        refine wp_iconst eX9_worstTime_18 ?_
        refine ist_2 eX9_worstTime_19 ?_
        have eW : bc_row M1 48 0 (cpF (M1 48 0) (fun _ => 0) 0 0) = M1 := by rw [cpF0, row_self]
        rw [← eW]
        refine lp_wtFill hML.1.2 hlen (sp_S dk fr nd ni + sg * ln).toNat 0 (by omega) (by omega) ?_
        refine wp_iconst eX9_worstTime_41 ?_
        refine ist_2 eX9_worstTime_42 ?_
        refine lp_wtOut hs1 (by have := p2_rng (n := M 33 0 6) (by omega); omega) ni.toNat 0 (fun _ => 0) _ none (by omega) (by omega) (LW.row ⟨Fr.rf, fun _ _ _ => rfl⟩) (hML.rows (fun k9 h9 => row_kne (by omega))) (fun t a b => by omega) (fun t a b => ?_) (fun M9 y9 hLW9 hML9 hw9 => ?_)
        · rw [row_at]
          unfold cpF
          rw [if_pos (by omega)]
        refine wp_iconst eX9_worstTime_100 ?_
        refine ist_2 eX9_worstTime_101 ?_
        refine wp_iconst eX9_worstTime_102 ?_
        refine ist_3 eX9_worstTime_103 ?_
        refine lp_wtFind (g := fun t => wfW (sW dk fr nd ni sg ln) s t ni.toNat 0 0) hML9.1.2 hlen hw9 (fun t a b => ?_) (sp_S dk fr nd ni + sg * ln - 1).toNat 1 0 (by omega) (by omega) (by omega) (k3 hl1 (by omega) M9 (hq1.lw hLW9))
        have := wfW_rng (W := sW dk fr nd ni sg ln) (s := s) (t := t) (ni := ni) (fun i a b => (sW_rng hs0.1 ⟨a, b⟩).1) ni.toNat 0 0 0 (by omega) (by omega) (by omega)
        show 0 ≤ wfW (sW dk fr nd ni sg ln) s t ni.toNat 0 0 ∧ wfW (sW dk fr nd ni sg ln) s t ni.toNat 0 0 ≤ 1000000
        omega
      · exact absurd (by decide) c9
  · rw [if_neg hb9]
    refine c_X9_201 eX9_worstTime_6 (ct_mIsWrong ?_)
    rcases hl with hl0 | hl1
    · rw [show mo_thr M 0 = 1 by unfold mo_thr; rw [if_pos hl0]]
      refine wp_if_eq eX9_worstTime_9 (fun c9 => ?_) (fun c9 => ?_)
      · exact absurd c9 (by decide)
      · refine wp_iconst eX9_worstTime_12 ?_
        refine wp_ireturn eX9_worstTime_13 ?_
        exact k1 hl0
    · rw [show mo_thr M 0 = 2 by unfold mo_thr; rw [if_neg (by omega), if_pos rfl]]
      refine wp_if_eq eX9_worstTime_9 (fun c9 => ?_) (fun c9 => ?_)
      · exact absurd c9 (by decide)
      · refine wp_iconst eX9_worstTime_12 ?_
        refine wp_ireturn eX9_worstTime_13 ?_
        exact k2 hl1 (by omega)
