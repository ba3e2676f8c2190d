/-- the model's memory with client c set to h -/
def mw (M : bc_M) (c : Int) (h : Int → Int) : bc_M := bc_row M 34 0 (cpF (M 34 0) h (54 + 38 * c) 38)
theorem mw_get {M : bc_M} {c p f : Int} {h : Int → Int} (hp : p = 54 + 38 * c + f) (hf : 0 ≤ f ∧ f < 38) : mw M c h 34 0 p = h f := by
  unfold mw
  rw [row_at]
  unfold cpF
  rw [if_pos (by omega), show p - (54 + 38 * c) = f by omega]
theorem mw_lo {M : bc_M} {c p : Int} {h : Int → Int} (hc : 0 ≤ c) (hp : p < 54) : mw M c h 34 0 p = M 34 0 p := by
  unfold mw
  rw [row_at]
  unfold cpF
  rw [if_neg (by omega)]
theorem mw_k {M : bc_M} {c j : Int} {h : Int → Int} {k : Nat} (hk : k ≠ 34) : mw M c h k j = M k j := by
  unfold mw
  rw [row_kne hk]
theorem mw_up {M : bc_M} {c p f v : Int} {h : Int → Int} (hp : p = 54 + 38 * c + f) (hf : 0 ≤ f ∧ f < 38) : bc_up (mw M c h) 34 0 p v = mw M c (bc_u h f v) := by
  unfold mw
  rw [up_row]
  congr 1
  funext q
  by_cases hq : q = p
  · rw [hq, u_at]
    unfold cpF
    rw [if_pos (by omega), show p - (54 + 38 * c) = f by omega, u_at]
  · rw [u_ne hq]
    unfold cpF
    by_cases h1 : 54 + 38 * c ≤ q ∧ q < 54 + 38 * c + 38
    · rw [if_pos h1, if_pos h1, u_ne (by omega)]
    · rw [if_neg h1, if_neg h1]
theorem mw_up2 {M : bc_M} {c j f v : Int} {h : Int → Int} {k : Nat} (hk : k ≠ 34) : bc_up (mw M c h) k j f v = mw (bc_up M k j f v) c h := by
  unfold mw
  rw [up_row_c (fun e => hk e.symm), up_kne (fun e => hk e.symm)]
theorem mw_self {M : bc_M} {c : Int} {h : Int → Int} (e : ∀ f, 0 ≤ f → f < 38 → M 34 0 (54 + 38 * c + f) = h f) : mw M c h = M := by
  unfold mw
  have : cpF (M 34 0) h (54 + 38 * c) 38 = M 34 0 := by
    funext q
    unfold cpF
    by_cases h1 : 54 + 38 * c ≤ q ∧ q < 54 + 38 * c + 38
    · rw [if_pos h1, ← e (q - (54 + 38 * c)) (by omega) (by omega), show 54 + 38 * c + (q - (54 + 38 * c)) = q by omega]
    · rw [if_neg h1]
  rw [this, row_self]
theorem mw_ms {M : bc_M} {dk fr pop bnd : Int → Int} {nd ni sg ln c : Int} {h : Int → Int} (hs : MS M dk fr pop bnd nd ni sg ln) (hc : 0 ≤ c) : MS (mw M c h) dk fr pop bnd nd ni sg ln := by
  obtain ⟨a1, a2, a3, a4, a5, a6, a7⟩ := hs
  unfold MS
  rw [mw_k (by decide), mw_lo hc (by omega), mw_lo hc (by omega)]
  exact ⟨a1, a2, fun i x y => by rw [mw_lo hc (by omega)]; exact a3 i x y, fun i x y => by rw [mw_lo hc (by omega)]; exact a4 i x y, a5, fun i x y => by rw [mw_lo hc (by omega), mw_lo hc (by omega)]; exact a6 i x y, a7⟩
theorem mw_mc {M : bc_M} {c f : Int} {h : Int → Int} (hf : 0 ≤ f ∧ f < 38) : mc (mw M c h) c f = h f := mw_get rfl hf
theorem up_ms {M : bc_M} {dk fr pop bnd : Int → Int} {nd ni sg ln f v : Int} (hs : MS M dk fr pop bnd nd ni sg ln) (h5 : f ≠ 5) (h6 : f ≠ 6) : MS (bc_up M 33 0 f v) dk fr pop bnd nd ni sg ln := by
  unfold MS at hs ⊢
  rw [up_kne (k' := 34) (by decide), up_at, u_ne (fun e => h5 e.symm), u_ne (fun e => h6 e.symm)]
  exact hs
theorem up_ml {M : bc_M} {dk fr : Int → Int} {nd ni sg ln f v : Int} (h : ML M dk fr nd ni sg ln) (h5 : f ≠ 25) (h6 : f ≠ 27) : ML (bc_up M 33 0 f v) dk fr nd ni sg ln := by
  unfold ML at h ⊢
  rw [up_kne (k' := 41) (by decide), up_kne (k' := 42) (by decide), up_at, u_ne (fun e => h5 e.symm), u_ne (fun e => h6 e.symm)]
  exact h
theorem mw_ml {M : bc_M} {dk fr : Int → Int} {nd ni sg ln c : Int} {g : Int → Int} (h : ML M dk fr nd ni sg ln) : ML (mw M c g) dk fr nd ni sg ln := h.rows (fun k hk => mw_k (by omega))
theorem mo_less_q {M : bc_M} {dk fr pop bnd : Int → Int} {nd ni sg ln c x y : Int} (hs : MS M dk fr pop bnd nd ni sg ln) (hpol : 0 ≤ M 37 0 c ∧ M 37 0 c ≤ 2) (hy : 0 ≤ y ∧ y < x) (hx : x < ni) : mo_less M c x y = ql (M 37 0 c) pop dk fr (mc M c) x y := by
  have hV := hs.1
  have h1 := hV.2.1
  have h2 := hV.1
  have hdx := hV.2.2.2.2.2 x (by omega) hx
  have hdy := hV.2.2.2.2.2 y hy.1 (by omega)
  unfold mo_less ql
  rw [(hs.2.2.2.2.2.1 x (by omega) (by omega)).1, (hs.2.2.2.2.2.1 y (by omega) (by omega)).1, hs.2.2.1 x (by omega) (by omega), hs.2.2.1 y (by omega) (by omega), hs.2.2.2.1 (dk x) (by omega) (by omega), hs.2.2.2.1 (dk y) (by omega) (by omega)]
  rcases (show M 37 0 c = 0 ∨ M 37 0 c = 1 ∨ M 37 0 c = 2 by omega) with e | e | e
  · rw [if_pos e, if_neg (by omega), if_neg (by omega)]
    exact decide_eq_decide.mpr (by omega)
  · rw [if_neg (by omega), if_pos e, if_neg (by omega)]
    by_cases q : mc M c (6 + x) = mc M c (6 + y)
    · rw [if_neg (fun z => z.2 q)]
      exact decide_eq_decide.mpr (by omega)
    · rw [if_pos ⟨e, q⟩]
      exact decide_eq_decide.mpr (by omega)
  · rw [if_neg (by omega), if_neg (by omega), if_pos e]
    by_cases q : pop x * fr (dk y) - pop y * fr (dk x) = 0
    · rw [if_pos q]
      exact decide_eq_decide.mpr (by omega)
    · rw [if_neg q]
      exact decide_eq_decide.mpr (by omega)
theorem mo_ch_q {M : bc_M} {dk fr pop bnd : Int → Int} {nd ni sg ln c : Int} (hs : MS M dk fr pop bnd nd ni sg ln) (hpol : 0 ≤ M 37 0 c ∧ M 37 0 c ≤ 2) : ∀ (n : Nat) (i b : Int), 0 ≤ i → i + n = ni → (-1 ≤ b ∧ b < i) → mo_ch M c n i b = qm (ql (M 37 0 c) pop dk fr (mc M c)) (mc M c 5) n i b
  | 0, _, _, _, _, _ => rfl
  | n + 1, i, b, h1, h2, h3 => by
    simp only [mo_ch, qm]
    have e : (if bs (mc M c 5) i = true ∧ (b = -1 ∨ mo_less M c i b = true) then i else b) = (if bs (mc M c 5) i = true ∧ (b = -1 ∨ ql (M 37 0 c) pop dk fr (mc M c) i b = true) then i else b) := by
      by_cases hb : b = -1
      · simp only [hb, true_or]
      · rw [mo_less_q hs hpol (by omega) (by omega)]
    rw [e]
    exact mo_ch_q hs hpol n (i + 1) _ (by omega) (by omega) (by split <;> omega)
theorem qm_c {lt lt' : Int → Int → Bool} {s ni : Int} (e : ∀ x y, 0 ≤ x → x < ni → 0 ≤ y → y < ni → lt x y = lt' x y) : ∀ (n : Nat) (i b : Int), 0 ≤ i → i + n = ni → (-1 ≤ b ∧ b < ni) → qm lt s n i b = qm lt' s n i b
  | 0, _, _, _, _, _ => rfl
  | n + 1, i, b, h1, h2, h3 => by
    simp only [qm]
    have e2 : (if bs s i = true ∧ (b = -1 ∨ lt i b = true) then i else b) = (if bs s i = true ∧ (b = -1 ∨ lt' i b = true) then i else b) := by
      by_cases hb : b = -1
      · simp only [hb, true_or]
      · rw [e i b h1 (by omega) (by omega) h3.2]
    rw [e2]
    exact qm_c e n (i + 1) _ (by omega) (by omega) (by split <;> omega)
theorem QI.rng {g : Int → Int} {ni n : Int} (h : QI g ni n) (hn : 0 ≤ n ∧ n ≤ 5001) : ∀ f, 0 ≤ f → f < 38 → 0 ≤ g f ∧ g f ≤ 100000000 := by
  obtain ⟨h1, h2, h3, h4, h5, h6, h7, h8⟩ := h
  intro f a b
  by_cases c : f < 6
  · rcases (show f = 0 ∨ f = 1 ∨ f = 2 ∨ f = 3 ∨ f = 4 ∨ f = 5 by omega) with e | e | e | e | e | e <;> subst e <;> omega
  · by_cases d : f < 22
    · have := h6 (f - 6) (by omega) (by omega)
      rw [show 6 + (f - 6) = f by omega] at this
      omega
    · have := h6 (f - 22) (by omega) (by omega)
      rw [show 22 + (f - 22) = f by omega] at this
      omega
def sW (dk fr : Int → Int) (nd ni sg ln : Int) : Int → Int → Int := fun i t => pg_wait (spM dk fr nd ni sg ln) 0 i t
def sL (dk fr : Int → Int) (nd ni sg ln : Int) : Int → Int → Int := fun i t => pg_listen (spM dk fr nd ni sg ln) 0 i t
theorem sW_rng {dk fr : Int → Int} {nd ni sg ln i t : Int} (h : SV dk fr nd ni sg ln) (hi : 0 ≤ i ∧ i < ni) : (0 ≤ sW dk fr nd ni sg ln i t ∧ sW dk fr nd ni sg ln i t ≤ 9000) ∧ 0 ≤ sL dk fr nd ni sg ln i t ∧ sL dk fr nd ni sg ln i t ≤ 9000 := ⟨pg_wait_rg2 (BR.pv h spM_br).1 hi, pg_listen_rng (BR.pv h spM_br).1 hi⟩
/-- what a request leaves of the model -/
def RQ (M M' : bc_M) (c : Int) (h : Int → Int) (r : Int) : Prop := Fr (fun k' j' => (k' = 33 ∨ k' = 34 ∨ k' = 43 ∨ k' = 44) ∧ j' = 0) M M' ∧ (∀ f, f ≠ 30 → M' 33 0 f = M 33 0 f) ∧ M' 33 0 30 = r ∧ M' 34 0 = cpF (M 34 0) h (54 + 38 * c) 38
theorem mwr_e {M : bc_M} {c : Int} {h : Int → Int} : mw M c h 34 0 = cpF (M 34 0) h (54 + 38 * c) 38 := by unfold mw; rw [row_at]
theorem cpF_cpF {g h h2 : Int → Int} {b n : Int} : cpF (cpF g h b n) h2 b n = cpF g h2 b n := by
  funext q
  unfold cpF
  by_cases a : b ≤ q ∧ q < b + n
  · rw [if_pos a, if_pos a]
  · rw [if_neg a, if_neg a, if_neg a]
theorem mc_q {M : bc_M} {c x y : Int} {pol : Int} {pop dk fr h : Int → Int} (hx : 0 ≤ x ∧ x < 16) (hy : 0 ≤ y ∧ y < 16) : ql pol pop dk fr (mc (mw M c h) c) x y = ql pol pop dk fr h x y := by
  unfold ql
  rw [mw_mc (by omega), mw_mc (by omega), mw_mc (by omega), mw_mc (by omega)]
set_option maxHeartbeats 1000000 in
theorem ct_requests1 {G : bc_G} {M : bc_M} {post : bc_R → bc_M → Prop} {dk fr pop bnd : Int → Int} {nd ni sg ln c i n cap pol : Int} (hs : MS M dk fr pop bnd nd ni sg ln) (hML : ML M dk fr nd ni sg ln) (hc : 0 ≤ c ∧ c < 4) (hi : 0 ≤ i ∧ i < ni) (hcap : M 36 0 c = cap ∧ 0 ≤ cap ∧ cap ≤ 4) (hpol : M 37 0 c = pol ∧ 0 ≤ pol ∧ pol ≤ 2) (hq : QI (mc M c) ni n) (hn : 0 ≤ n ∧ n ≤ 5000) (k : ∀ M' : bc_M, RQ M M' c (qG cap pol ni pop dk fr (sW dk fr nd ni sg ln) (sL dk fr nd ni sg ln) (mc M c) i) (qr cap pol ni pop dk fr (mc M c) i) → post (.inr (some (vI (qR (sW dk fr nd ni sg ln) (mc M c) i)))) M') : bc_Call G yX9_requests1 cX9_requests1 6 (some .int) 4 0 [vR G 33 0, vI c, vI i] M post := by
  have hni := hs.1.2.1
  have hlen := hML.len hs.1
  have q5 := hq.2.2.2.2.1
  have q0 := hq.1
  have q12 := hq.2.1
  have q3 := hq.2.2.1
  have q4 := hq.2.2.2.1
  refine bc_enter (L := [some (vR G 33 0), some (vI c), some (vI i), none, none, none]) (by decide) rfl rfl ?_
  refine wp_bipush eX9_requests1_0 ?_
  refine wp_bipush eX9_requests1_2 ?_
  refine wp_iload_n eX9_requests1_4 rfl ?_
  refine wp_imul eX9_requests1_5 ?_
  refine wp_iadd eX9_requests1_6 ?_
  refine ist_3 eX9_requests1_7 ?_
  refine wp_aload_n eX9_requests1_8 rfl ?_
  refine wp_bipush eX9_requests1_9 ?_
  refine pf_X9_264 eX9_requests1_11 ?_
  generalize hM1 : bc_up M 33 0 30 (-2) = M1
  have s1 : MS M1 dk fr pop bnd nd ni sg ln := by rw [← hM1]; exact up_ms hs (by decide) (by decide)
  have l1 : ML M1 dk fr nd ni sg ln := by rw [← hM1]; exact up_ml hML (by decide) (by decide)
  have r1 : M1 34 0 = M 34 0 := by rw [← hM1, up_kne (by decide)]
  have z1 : M1 33 0 30 = -2 := by rw [← hM1, up_v, if_pos rfl]
  have z2 : ∀ f, f ≠ 30 → M1 33 0 f = M 33 0 f := fun f hf => by rw [← hM1, up_v, if_neg hf]
  have z3 : Fr (fun k' j' => (k' = 33 ∨ k' = 34 ∨ k' = 43 ∨ k' = 44) ∧ j' = 0) M M1 := by rw [← hM1]; exact Fr.up ⟨Or.inl rfl, rfl⟩
  rw [show M1 = mw M1 c (mc M c) from (mw_self (fun f a b => by rw [r1]; rfl)).symm]
  refine wp_aload_n eX9_requests1_14 rfl ?_
  refine gf_X9_7 eX9_requests1_15 ?_
  refine wp_iload_n eX9_requests1_18 rfl ?_
  refine wp_bipush eX9_requests1_19 ?_
  refine wp_iadd eX9_requests1_21 ?_
  refine wp_iload_n eX9_requests1_22 rfl ?_
  refine wp_iadd eX9_requests1_23 ?_
  refine wp_dup2 eX9_requests1_24 ?_
  refine al_34 eX9_requests1_25 ?_
  rw [mw_get (f := 6 + i) (by omega) (by omega)]
  refine wp_iconst eX9_requests1_26 ?_
  refine wp_iadd eX9_requests1_27 ?_
  refine as_34 eX9_requests1_28 ?_
  rw [mw_up (f := 6 + i) (by omega) (by omega)]
  refine wp_aload_n eX9_requests1_29 rfl ?_
  refine gf_X9_7 eX9_requests1_30 ?_
  refine wp_iload_n eX9_requests1_33 rfl ?_
  refine wp_bipush eX9_requests1_34 ?_
  refine wp_iadd eX9_requests1_36 ?_
  refine wp_iload_n eX9_requests1_37 rfl ?_
  refine wp_iadd eX9_requests1_38 ?_
  refine wp_aload_n eX9_requests1_39 rfl ?_
  refine gf_X9_7 eX9_requests1_40 ?_
  refine wp_iload_n eX9_requests1_43 rfl ?_
  refine wp_iconst eX9_requests1_44 ?_
  refine wp_iadd eX9_requests1_45 ?_
  refine al_34 eX9_requests1_46 ?_
  rw [mw_get (f := 1) (by omega) (by omega)]
  rw [u_ne (by omega)]
  refine wp_aload_n eX9_requests1_47 rfl ?_
  refine gf_X9_7 eX9_requests1_48 ?_
  refine wp_iload_n eX9_requests1_51 rfl ?_
  refine wp_iconst eX9_requests1_52 ?_
  refine wp_iadd eX9_requests1_53 ?_
  refine al_34 eX9_requests1_54 ?_
  rw [mw_get (f := 2) (by omega) (by omega)]
  rw [u_ne (by omega)]
  refine wp_iadd eX9_requests1_55 ?_
  refine wp_iconst eX9_requests1_56 ?_
  refine wp_iadd eX9_requests1_57 ?_
  refine as_34 eX9_requests1_58 ?_
  rw [mw_up (f := 22 + i) (by omega) (by omega)]
  rw [show bc_u (bc_u (mc M c) (6 + i) (mc M c (6 + i) + 1)) (22 + i) (mc M c 1 + mc M c 2 + 1) = q1 (mc M c) i from rfl]
  refine wp_aload_n eX9_requests1_59 rfl ?_
  refine gf_X9_7 eX9_requests1_60 ?_
  refine wp_iload_n eX9_requests1_63 rfl ?_
  refine wp_iconst eX9_requests1_64 ?_
  refine wp_iadd eX9_requests1_65 ?_
  refine al_34 eX9_requests1_66 ?_
  rw [mw_get (f := 5) (by omega) (by omega)]
  rw [q1_v (by omega) (by omega)]
  refine wp_iload_n eX9_requests1_67 rfl ?_
  refine c_X9_211 eX9_requests1_68 (ct_has ?_)
  refine wp_if_eq eX9_requests1_71 (fun c71 => ?_) (fun c71 => ?_) (by split <;> omega)
  · have hb : ¬ bs (mc M c 5) i = true := by
      intro h
      rw [h] at c71
      exact absurd c71 (by decide)
    refine wp_aload_n eX9_requests1_88 rfl ?_
    refine wp_iload_n eX9_requests1_89 rfl ?_
    refine c_X9_248 eX9_requests1_90 (ct_lay (x := i) (p := M1 42 0) (len := sp_S dk fr nd ni + sg * ln) hlen (by omega) (by rw [mw_k (by decide)]; exact l1.1.2) (by rw [mw_k (by decide)]) (fun t a b => P_rng hs.1 l1.2.1 l1.2.2 ⟨a, b⟩) (fun M2 g1 g2 g3 => ?_))
    have hm2 : mw M2 c (q1 (mc M c) i) = M2 := mw_self (fun f a b => by rw [g1 34 0 (by omega)]; exact mw_get rfl ⟨a, b⟩)
    have s2 : MS M2 dk fr pop bnd nd ni sg ln := (LY.of g1).ms (mw_ms s1 hc.1)
    have l2 : ML M2 dk fr nd ni sg ln := (mw_ml (c := c) (g := q1 (mc M c) i) l1).rows (fun k9 h9 => g1 k9 0 (by omega))
    have e42 : M2 42 0 = M1 42 0 := by rw [g1 42 0 (by omega), mw_k (by decide)]
    have e33 : M2 33 0 = M1 33 0 := by rw [g1 33 0 (by omega), mw_k (by decide)]
    have e34 : M2 34 0 = cpF (M 34 0) (q1 (mc M c) i) (54 + 38 * c) 38 := by rw [g1 34 0 (by omega), mwr_e, r1]
    have f2 : Fr (fun k' j' => (k' = 33 ∨ k' = 34 ∨ k' = 43 ∨ k' = 44) ∧ j' = 0) M M2 := Fr.tr (Fr.tr z3 (row_fr.mono (fun k9 j9 h9 => ⟨by unfold at1 at h9; omega, h9.2⟩))) (g1.mono (fun k9 j9 h9 => ⟨by omega, h9.2⟩))
    have hac := acc_eq hs.1 spM_br l1.2.1 l1.2.2 (t := mc M c 0) hi
    have hm1 := Int.emod_nonneg (mc M c 0) (show sp_S dk fr nd ni + sg * ln ≠ 0 by omega)
    have hm3 := Int.emod_lt_of_pos (mc M c 0) (show 0 < sp_S dk fr nd ni + sg * ln by omega)
    have hwr := (sW_rng (t := mc M c 0) hs.1 hi)
    refine wp_aload_n eX9_requests1_93 rfl ?_
    refine gf_X9_7 eX9_requests1_94 ?_
    refine wp_iload_n eX9_requests1_97 rfl ?_
    refine wp_iconst eX9_requests1_98 ?_
    refine wp_iadd eX9_requests1_99 ?_
    refine al_34 eX9_requests1_100 ?_
    rw [← hm2]
    rw [mw_get (f := 0) (by omega) (by omega)]
    rw [q1_v (by omega) (by omega)]
    refine wp_aload_n eX9_requests1_101 rfl ?_
    refine gf_X9_231 eX9_requests1_102 ?_
    rw [mw_k (by decide), l2.1.2]
    refine wp_irem eX9_requests1_105 ?_
    refine ist_4 eX9_requests1_106 ?_
    refine wp_aload_n eX9_requests1_108 rfl ?_
    refine wp_iload eX9_requests1_109 rfl ?_
    refine c_X9_251 eX9_requests1_111 (ct_accessAt hlen (by rw [mw_k (by decide)]; exact l2.1.2) (by rw [mw_lo hc.1 (by decide)]; exact s2.2.2.2.2.1.1) (by rw [mw_lo hc.1 (by decide)]; exact s2.2.2.2.2.1.2) hs.1.2.2.1 hs.1.2.2.2.1 (by rw [mw_k (by decide)]; exact g2) (by rw [mw_k (by decide)]; exact g3) (t := mc M c 0 % (sp_S dk fr nd ni + sg * ln)) ⟨hm1, hm3⟩ ?_)
    rw [show sp_ac (M1 42 0) sg ln i (sp_S dk fr nd ni + sg * ln) (mc M c 0 % (sp_S dk fr nd ni + sg * ln)) = sW dk fr nd ni sg ln i (mc M c 0) from hac.1]
    refine ist_5 eX9_requests1_114 ?_
    refine wp_aload_n eX9_requests1_116 rfl ?_
    refine gf_X9_7 eX9_requests1_117 ?_
    refine wp_iload_n eX9_requests1_120 rfl ?_
    refine wp_iconst eX9_requests1_121 ?_
    refine wp_iadd eX9_requests1_122 ?_
    refine wp_dup2 eX9_requests1_123 ?_
    refine al_34 eX9_requests1_124 ?_
    rw [mw_get (f := 2) (by omega) (by omega)]
    rw [q1_v (by omega) (by omega)]
    refine wp_iconst eX9_requests1_125 ?_
    refine wp_iadd eX9_requests1_126 ?_
    refine as_34 eX9_requests1_127 ?_
    rw [mw_up (f := 2) (by omega) (by omega)]
    refine wp_aload_n eX9_requests1_128 rfl ?_
    refine gf_X9_7 eX9_requests1_129 ?_
    refine wp_iload_n eX9_requests1_132 rfl ?_
    refine wp_iconst eX9_requests1_133 ?_
    refine wp_iadd eX9_requests1_134 ?_
    refine wp_dup2 eX9_requests1_135 ?_
    refine al_34 eX9_requests1_136 ?_
    rw [mw_get (f := 3) (by omega) (by omega)]
    rw [u_ne (by omega), q1_v (by omega) (by omega)]
    refine wp_iload eX9_requests1_137 rfl ?_
    refine wp_iadd eX9_requests1_139 ?_
    refine as_34 eX9_requests1_140 ?_
    rw [mw_up (f := 3) (by omega) (by omega)]
    refine wp_aload_n eX9_requests1_141 rfl ?_
    refine gf_X9_7 eX9_requests1_142 ?_
    refine wp_iload_n eX9_requests1_145 rfl ?_
    refine wp_iconst eX9_requests1_146 ?_
    refine wp_iadd eX9_requests1_147 ?_
    refine wp_dup2 eX9_requests1_148 ?_
    refine al_34 eX9_requests1_149 ?_
    rw [mw_get (f := 4) (by omega) (by omega)]
    rw [u_ne (by omega), u_ne (by omega), q1_v (by omega) (by omega)]
    refine wp_aload_n eX9_requests1_150 rfl ?_
    refine wp_iload eX9_requests1_151 rfl ?_
    refine c_X9_254 eX9_requests1_153 (ct_tuningAt hlen (by rw [mw_k (by decide)]; exact l2.1.2) (by rw [mw_lo hc.1 (by decide)]; exact s2.2.2.2.2.1.1) (by rw [mw_lo hc.1 (by decide)]; exact s2.2.2.2.2.1.2) hs.1.2.2.1 hs.1.2.2.2.1 (by rw [mw_k (by decide)]; exact g2) (by rw [mw_k (by decide)]; exact g3) (t := mc M c 0 % (sp_S dk fr nd ni + sg * ln)) ⟨hm1, hm3⟩ ?_)
    rw [show sp_tu (M1 42 0) sg ln i (sp_S dk fr nd ni + sg * ln) (mc M c 0 % (sp_S dk fr nd ni + sg * ln)) = sL dk fr nd ni sg ln i (mc M c 0) from hac.2]
    refine wp_iadd eX9_requests1_156 ?_
    refine as_34 eX9_requests1_157 ?_
    rw [mw_up (f := 4) (by omega) (by omega)]
    refine wp_aload_n eX9_requests1_158 rfl ?_
    refine gf_X9_7 eX9_requests1_159 ?_
    refine wp_iload_n eX9_requests1_162 rfl ?_
    refine wp_iconst eX9_requests1_163 ?_
    refine wp_iadd eX9_requests1_164 ?_
    refine wp_dup2 eX9_requests1_165 ?_
    refine al_34 eX9_requests1_166 ?_
    rw [mw_get (f := 0) (by omega) (by omega)]
    rw [u_ne (by omega), u_ne (by omega), u_ne (by omega), q1_v (by omega) (by omega)]
    refine wp_iload eX9_requests1_167 rfl ?_
    refine wp_iadd eX9_requests1_169 ?_
    refine as_34 eX9_requests1_170 ?_
    rw [mw_up (f := 0) (by omega) (by omega)]
    refine wp_aload_n eX9_requests1_171 rfl ?_
    refine gf_X9_7 eX9_requests1_172 ?_
    refine wp_iload_n eX9_requests1_175 rfl ?_
    refine wp_iconst eX9_requests1_176 ?_
    refine wp_iadd eX9_requests1_177 ?_
    refine wp_dup2 eX9_requests1_178 ?_
    refine al_34 eX9_requests1_179 ?_
    rw [mw_get (f := 5) (by omega) (by omega)]
    rw [u_ne (by omega), u_ne (by omega), u_ne (by omega), u_ne (by omega), q1_v (by omega) (by omega)]
    refine wp_iconst eX9_requests1_180 ?_
    refine wp_iload_n eX9_requests1_181 rfl ?_
    refine wp_ishl eX9_requests1_182 ?_
    refine wp_ior eX9_requests1_183 ?_
    rw [bs_or_shl ⟨by omega, by omega⟩ ⟨by omega, by omega⟩]
    refine as_34 eX9_requests1_184 ?_
    rw [mw_up (f := 5) (by omega) (by omega)]
    have hsr := bs_add_rng (s := mc M c 5) (i := i) (n := 16) (by omega) (by omega)
    have hcr := bs_cnt_rng (bs_add (mc M c 5) i) 16
    refine wp_aload_n eX9_requests1_185 rfl ?_
    refine gf_X9_7 eX9_requests1_186 ?_
    refine wp_iload_n eX9_requests1_189 rfl ?_
    refine wp_iconst eX9_requests1_190 ?_
    refine wp_iadd eX9_requests1_191 ?_
    refine al_34 eX9_requests1_192 ?_
    rw [mw_get (f := 5) (by omega) (by omega)]
    rw [u_at]
    refine c_X9_215 eX9_requests1_193 (ct_mMany ⟨hsr.1, by omega⟩ ?_)
    refine wp_aload_n eX9_requests1_196 rfl ?_
    refine gf_X9_16 eX9_requests1_197 ?_
    refine wp_iload_n eX9_requests1_200 rfl ?_
    refine al_36 eX9_requests1_201 ?_
    rw [mw_k (by decide), show M2 36 0 c = cap by rw [f2 36 0 (by omega)]; exact hcap.1]
    refine wp_icmp_le eX9_requests1_202 (fun c202 => ?_) (fun c202 => ?_)
    · refine wp_iload eX9_requests1_231 rfl ?_
      refine wp_ireturn eX9_requests1_233 ?_
      have e8 : qR (sW dk fr nd ni sg ln) (mc M c) i = sW dk fr nd ni sg ln i (mc M c 0) := by unfold qR; rw [if_neg hb]
      rw [e8] at k
      by_cases hcc : bs_cnt (bs_add (mc M c 5) i) 16 ≤ cap
      · have e9 : qG cap pol ni pop dk fr (sW dk fr nd ni sg ln) (sL dk fr nd ni sg ln) (mc M c) i = bc_u (bc_u (bc_u (bc_u (bc_u (q1 (mc M c) i) 2 (mc M c 2 + 1)) 3 (mc M c 3 + sW dk fr nd ni sg ln i (mc M c 0))) 4 (mc M c 4 + sL dk fr nd ni sg ln i (mc M c 0))) 0 (mc M c 0 + sW dk fr nd ni sg ln i (mc M c 0))) 5 (bs_add (mc M c 5) i) := by unfold qG qc; rw [if_neg hb, if_pos hcc]
        have e10 : qr cap pol ni pop dk fr (mc M c) i = -2 := by unfold qr qv; rw [if_neg hb, if_pos hcc]
        first
        | (exfalso; omega)
        | exact k _ ⟨Fr.tr f2 (row_fr.mono (fun k9 j9 h9 => ⟨by unfold at1 at h9; omega, h9.2⟩)), fun f hf => by rw [mw_k (by decide), e33]; exact z2 f hf, by rw [mw_k (by decide), e33, e10]; exact z1, by rw [mwr_e, e34, cpF_cpF, e9]⟩
      · first
        | (exfalso; omega)
        | (rw [mw_up (f := 5) (by omega) (by omega), u_u]
           have e9 : qG cap pol ni pop dk fr (sW dk fr nd ni sg ln) (sL dk fr nd ni sg ln) (mc M c) i = bc_u (bc_u (bc_u (bc_u (bc_u (q1 (mc M c) i) 2 (mc M c 2 + 1)) 3 (mc M c 3 + sW dk fr nd ni sg ln i (mc M c 0))) 4 (mc M c 4 + sL dk fr nd ni sg ln i (mc M c 0))) 0 (mc M c 0 + sW dk fr nd ni sg ln i (mc M c 0))) 5 (bs_add (mc M c 5) i - ((2 ^ (qv cap pol ni pop dk fr (mc M c) i).toNat : Nat) : Int)) := by unfold qG qc; rw [if_neg hb, if_neg hcc]
           have e10 : qr cap pol ni pop dk fr (mc M c) i = qv cap pol ni pop dk fr (mc M c) i := by unfold qr; rw [if_neg hb]
           exact k _ ⟨Fr.tr f2 (Fr.tr (Fr.up (k := 33) (j := 0) ⟨Or.inl rfl, rfl⟩) (row_fr.mono (fun k9 j9 h9 => ⟨by unfold at1 at h9; omega, h9.2⟩))), fun f hf => by rw [mw_k (by decide), up_v, if_neg hf, e33]; exact z2 f hf, by rw [mw_k (by decide), up_v, if_pos rfl, e10], by rw [mwr_e, up_kne (by decide), e34, cpF_cpF, e9]⟩)
    · have hQ2 : QI (bc_u (bc_u (bc_u (bc_u (bc_u (q1 (mc M c) i) 2 (mc M c 2 + 1)) 3 (mc M c 3 + sW dk fr nd ni sg ln i (mc M c 0))) 4 (mc M c 4 + sL dk fr nd ni sg ln i (mc M c 0))) 0 (mc M c 0 + sW dk fr nd ni sg ln i (mc M c 0))) 5 (bs_add (mc M c 5) i)) ni (n + 1) := by
        have h9 := QI.st (cap := 16) (pol := pol) (pop := pop) (W := sW dk fr nd ni sg ln) (L := sL dk fr nd ni sg ln) hs.1 hq hi hwr.1 hwr.2
        unfold qG qc at h9
        rw [if_neg hb, if_pos (by omega)] at h9
        exact h9
      refine wp_aload_n eX9_requests1_205 rfl ?_
      refine wp_aload_n eX9_requests1_206 rfl ?_
      refine wp_iload_n eX9_requests1_207 rfl ?_
      refine c_X9_267 eX9_requests1_208 (ct_chosen (mw_ms s2 hc.1) hc (by rw [mw_k (by decide), f2 37 0 (by omega), hpol.1]; exact hpol.2) (fun f a b => by rw [mw_mc ⟨a, b⟩]; exact hQ2.rng (by omega) f a b) (by rw [mw_mc (by omega), u_at]; omega) ?_)
      rw [show mo_ch (mw M2 c (bc_u (bc_u (bc_u (bc_u (bc_u (q1 (mc M c) i) 2 (mc M c 2 + 1)) 3 (mc M c 3 + sW dk fr nd ni sg ln i (mc M c 0))) 4 (mc M c 4 + sL dk fr nd ni sg ln i (mc M c 0))) 0 (mc M c 0 + sW dk fr nd ni sg ln i (mc M c 0))) 5 (bs_add (mc M c 5) i))) c ni.toNat 0 (-1) = qv cap pol ni pop dk fr (mc M c) i by
        rw [mo_ch_q (mw_ms s2 hc.1) (by rw [mw_k (by decide), f2 37 0 (by omega), hpol.1]; exact hpol.2) ni.toNat 0 (-1) (by omega) (by omega) (by omega), mw_mc (by omega), u_at, mw_k (by decide), f2 37 0 (by omega), hpol.1]
        unfold qv
        rw [if_neg (by omega)]
        refine qm_c (ni := ni) (fun x y a b a2 b2 => ?_) ni.toNat 0 (-1) (by omega) (by omega) (by omega)
        rw [mc_q (by omega) (by omega)]
        unfold ql
        simp only [u_ne (show 6 + x ≠ 5 by omega), u_ne (show 6 + x ≠ 0 by omega), u_ne (show 6 + x ≠ 4 by omega), u_ne (show 6 + x ≠ 3 by omega), u_ne (show 6 + x ≠ 2 by omega), u_ne (show 22 + x ≠ 5 by omega), u_ne (show 22 + x ≠ 0 by omega), u_ne (show 22 + x ≠ 4 by omega), u_ne (show 22 + x ≠ 3 by omega), u_ne (show 22 + x ≠ 2 by omega), u_ne (show 6 + y ≠ 5 by omega), u_ne (show 6 + y ≠ 0 by omega), u_ne (show 6 + y ≠ 4 by omega), u_ne (show 6 + y ≠ 3 by omega), u_ne (show 6 + y ≠ 2 by omega), u_ne (show 22 + y ≠ 5 by omega), u_ne (show 22 + y ≠ 0 by omega), u_ne (show 22 + y ≠ 4 by omega), u_ne (show 22 + y ≠ 3 by omega), u_ne (show 22 + y ≠ 2 by omega)]]
      have hqv := qv_in (cap := cap) (pol := pol) (pop := pop) hs.1 hq hi (by omega)
      refine pf_X9_264 eX9_requests1_211 ?_
      rw [mw_up2 (by decide)]
      refine wp_aload_n eX9_requests1_214 rfl ?_
      refine gf_X9_7 eX9_requests1_215 ?_
      refine wp_iload_n eX9_requests1_218 rfl ?_
      refine wp_iconst eX9_requests1_219 ?_
      refine wp_iadd eX9_requests1_220 ?_
      refine wp_dup2 eX9_requests1_221 ?_
      refine al_34 eX9_requests1_222 ?_
      rw [mw_get (f := 5) (by omega) (by omega)]
      rw [u_at]
      refine wp_iconst eX9_requests1_223 ?_
      refine wp_aload_n eX9_requests1_224 rfl ?_
      refine gf_X9_264 eX9_requests1_225 ?_
      rw [mw_k (by decide), up_v, if_pos rfl]
      refine wp_ishl eX9_requests1_228 ?_
      rw [bs_shl1 ⟨hqv.1.1, by omega⟩]
      refine wp_isub eX9_requests1_229 ?_
      refine as_34 eX9_requests1_230 ?_
      refine wp_iload eX9_requests1_231 rfl ?_
      refine wp_ireturn eX9_requests1_233 ?_
      have e8 : qR (sW dk fr nd ni sg ln) (mc M c) i = sW dk fr nd ni sg ln i (mc M c 0) := by unfold qR; rw [if_neg hb]
      rw [e8] at k
      by_cases hcc : bs_cnt (bs_add (mc M c 5) i) 16 ≤ cap
      · have e9 : qG cap pol ni pop dk fr (sW dk fr nd ni sg ln) (sL dk fr nd ni sg ln) (mc M c) i = bc_u (bc_u (bc_u (bc_u (bc_u (q1 (mc M c) i) 2 (mc M c 2 + 1)) 3 (mc M c 3 + sW dk fr nd ni sg ln i (mc M c 0))) 4 (mc M c 4 + sL dk fr nd ni sg ln i (mc M c 0))) 0 (mc M c 0 + sW dk fr nd ni sg ln i (mc M c 0))) 5 (bs_add (mc M c 5) i) := by unfold qG qc; rw [if_neg hb, if_pos hcc]
        have e10 : qr cap pol ni pop dk fr (mc M c) i = -2 := by unfold qr qv; rw [if_neg hb, if_pos hcc]
        first
        | (exfalso; omega)
        | exact k _ ⟨Fr.tr f2 (row_fr.mono (fun k9 j9 h9 => ⟨by unfold at1 at h9; omega, h9.2⟩)), fun f hf => by rw [mw_k (by decide), e33]; exact z2 f hf, by rw [mw_k (by decide), e33, e10]; exact z1, by rw [mwr_e, e34, cpF_cpF, e9]⟩
      · first
        | (exfalso; omega)
        | (rw [mw_up (f := 5) (by omega) (by omega), u_u]
           have e9 : qG cap pol ni pop dk fr (sW dk fr nd ni sg ln) (sL dk fr nd ni sg ln) (mc M c) i = bc_u (bc_u (bc_u (bc_u (bc_u (q1 (mc M c) i) 2 (mc M c 2 + 1)) 3 (mc M c 3 + sW dk fr nd ni sg ln i (mc M c 0))) 4 (mc M c 4 + sL dk fr nd ni sg ln i (mc M c 0))) 0 (mc M c 0 + sW dk fr nd ni sg ln i (mc M c 0))) 5 (bs_add (mc M c 5) i - ((2 ^ (qv cap pol ni pop dk fr (mc M c) i).toNat : Nat) : Int)) := by unfold qG qc; rw [if_neg hb, if_neg hcc]
           have e10 : qr cap pol ni pop dk fr (mc M c) i = qv cap pol ni pop dk fr (mc M c) i := by unfold qr; rw [if_neg hb]
           exact k _ ⟨Fr.tr f2 (Fr.tr (Fr.up (k := 33) (j := 0) ⟨Or.inl rfl, rfl⟩) (row_fr.mono (fun k9 j9 h9 => ⟨by unfold at1 at h9; omega, h9.2⟩))), fun f hf => by rw [mw_k (by decide), up_v, if_neg hf, e33]; exact z2 f hf, by rw [mw_k (by decide), up_v, if_pos rfl, e10], by rw [mwr_e, up_kne (by decide), e34, cpF_cpF, e9]⟩)
  · have hb : bs (mc M c 5) i = true := by
      cases h : bs (mc M c 5) i
      · rw [h] at c71; exact absurd rfl c71
      · rfl
    refine wp_aload_n eX9_requests1_74 rfl ?_
    refine gf_X9_7 eX9_requests1_75 ?_
    refine wp_iload_n eX9_requests1_78 rfl ?_
    refine wp_iconst eX9_requests1_79 ?_
    refine wp_iadd eX9_requests1_80 ?_
    refine wp_dup2 eX9_requests1_81 ?_
    refine al_34 eX9_requests1_82 ?_
    rw [mw_get (f := 1) (by omega) (by omega)]
    rw [q1_v (by omega) (by omega)]
    refine wp_iconst eX9_requests1_83 ?_
    refine wp_iadd eX9_requests1_84 ?_
    refine as_34 eX9_requests1_85 ?_
    rw [mw_up (f := 1) (by omega) (by omega)]
    refine wp_iconst eX9_requests1_86 ?_
    refine wp_ireturn eX9_requests1_87 ?_
    have e8 : qR (sW dk fr nd ni sg ln) (mc M c) i = 0 := by unfold qR; rw [if_pos hb]
    have e9 : qG cap pol ni pop dk fr (sW dk fr nd ni sg ln) (sL dk fr nd ni sg ln) (mc M c) i = bc_u (q1 (mc M c) i) 1 (mc M c 1 + 1) := by unfold qG; rw [if_pos hb]
    have e10 : qr cap pol ni pop dk fr (mc M c) i = -2 := by unfold qr; rw [if_pos hb]
    rw [e8] at k
    refine k _ ⟨Fr.tr z3 (row_fr.mono (fun k9 j9 h9 => ⟨by unfold at1 at h9; omega, h9.2⟩)), fun f hf => by rw [mw_k (by decide)]; exact z2 f hf, by rw [mw_k (by decide), e10]; exact z1, by rw [mwr_e, r1, e9]⟩
