def ws_in (a f : Int) (A T : Int → Int) : Nat → Int → Int → Int
  | 0, _, w => w
  | n + 1, t, w => ws_in a f A T n (t + 1) (w + a * (A t + f * T t))
def ws_out (pop : Int → Int) (f len : Int) (A T : Int → Int → Int) : Nat → Int → Int → Int
  | 0, _, w => w
  | n + 1, i, w => ws_out pop f len A T n (i + 1) (ws_in (pop i) f (A i) (T i) len.toNat 0 w)
/-- the weight as a sum over slots -/
def sp_WS (dk fr pop : Int → Int) (nd ni sg ln f : Int) : Int := ws_out pop f (sp_S dk fr nd ni + sg * ln) (fun i t => pg_wait (spM dk fr nd ni sg ln) 0 i t) (fun i t => pg_listen (spM dk fr nd ni sg ln) 0 i t) ni.toNat 0 0
theorem acc_at {dk fr : Int → Int} {nd ni sg ln : Int} {D p : Int → Int} (h : SV dk fr nd ni sg ln) (hg : DI dk fr nd ni D (sp_N dk fr nd ni) 0) (hP : PP D p sg (sp_S dk fr nd ni) ln (sp_S dk fr nd ni + sg * ln) sg (sp_S dk fr nd ni)) {i t : Int} (hi : 0 ≤ i ∧ i < ni) (ht : 0 ≤ t ∧ t < sp_S dk fr nd ni + sg * ln) : sp_ac p sg ln i (sp_S dk fr nd ni + sg * ln) t = pg_wait (spM dk fr nd ni sg ln) 0 i t ∧ sp_tu p sg ln i (sp_S dk fr nd ni + sg * ln) t = pg_listen (spM dk fr nd ni sg ln) 0 i t := by
  have := acc_eq h spM_br hg hP (t := t) hi
  rw [mod_lo ht.1 ht.2] at this
  exact this
theorem pg_listen_rng {M : bc_M} {j ni i t : Int} (h : PV M j ni) (hi : 0 ≤ i ∧ i < ni) : 0 ≤ pg_listen M j i t ∧ pg_listen M j i t ≤ 9000 := by
  have h1 := pg_wait_rg2 (t := t) h hi
  have h3 := h.2.2.1
  unfold pg_listen
  split
  · exact h1
  · split
    · omega
    · split <;> omega
theorem lp_wIn {G : bc_G} {M : bc_M} {post : bc_R → bc_M → Prop} {dk fr pop bnd : Int → Int} {nd ni sg ln f i : Int} (hs : MS M dk fr pop bnd nd ni sg ln) (hML : ML M dk fr nd ni sg ln) (hf : 0 ≤ f ∧ f ≤ 99) (hi : 0 ≤ i ∧ i < ni) (e43 : ∀ t, 0 ≤ t → t < sp_S dk fr nd ni + sg * ln → M 43 0 t = sp_far (M 42 0) i (sp_S dk fr nd ni + sg * ln) t) (e44 : ∀ t, 0 ≤ t → t < sp_S dk fr nd ni + sg * ln → M 44 0 t = sp_far (M 42 0) (-3) (sp_S dk fr nd ni + sg * ln) t) : ∀ (n : Nat) (t w : Int) (h1 : t + n = sp_S dk fr nd ni + sg * ln) (h2 : 0 ≤ t) (k : ∀ t9 : Int, bc_W G RX9 cX9_weightOf 6 (some .long) 10 0 0 72 [some (vR G 33 0), some (vI f), some (vJ (ws_in (pop i) f (fun t => pg_wait (spM dk fr nd ni sg ln) 0 i t) (fun t => pg_listen (spM dk fr nd ni sg ln) 0 i t) n t w)), none, some (vI i), some (vI t9)] [] M post), bc_W G RX9 cX9_weightOf 6 (some .long) 10 0 0 27 [some (vR G 33 0), some (vI f), some (vJ w), none, some (vI i), some (vI t)] [] M post := by
  intro n
  induction n with
  | zero =>
    intro t w h1 h2 k
    have hlen := hML.len hs.1
    have hni := hs.1.2.1
    have hpv := (BR.pv hs.1 (spM_br (dk := dk) (fr := fr) (nd := nd) (ni := ni) (sg := sg) (ln := ln))).1
    refine wp_iload eX9_weightOf_27 rfl ?_
    refine wp_aload_n eX9_weightOf_29 rfl ?_
    refine gf_X9_231 eX9_weightOf_30 ?_
    rw [hML.1.2]
    refine wp_icmp_ge eX9_weightOf_33 (fun c33 => ?_) (fun c33 => ?_)
    · simp only [ws_in] at k
      exact k _
    · omega
  | succ n ih =>
    intro t w h1 h2 k
    have hlen := hML.len hs.1
    have hni := hs.1.2.1
    have hpv := (BR.pv hs.1 (spM_br (dk := dk) (fr := fr) (nd := nd) (ni := ni) (sg := sg) (ln := ln))).1
    refine wp_iload eX9_weightOf_27 rfl ?_
    refine wp_aload_n eX9_weightOf_29 rfl ?_
    refine gf_X9_231 eX9_weightOf_30 ?_
    rw [hML.1.2]
    refine wp_icmp_ge eX9_weightOf_33 (fun c33 => ?_) (fun c33 => ?_)
    · omega
    · simp only [ws_in] at k
      refine wp_lload_n eX9_weightOf_36 rfl ?_
      refine wp_aload_n eX9_weightOf_37 rfl ?_
      refine gf_X9_7 eX9_weightOf_38 ?_
      refine wp_iconst eX9_weightOf_41 ?_
      refine wp_iload eX9_weightOf_42 rfl ?_
      refine wp_iadd eX9_weightOf_44 ?_
      refine al_34 eX9_weightOf_45 ?_
      rw [(hs.2.2.2.2.2.1 i (by omega) (by omega)).1]
      have hpp := (hs.2.2.2.2.2.2 i hi.1 hi.2).1
      refine wp_i2l eX9_weightOf_46 ?_
      refine wp_aload_n eX9_weightOf_47 rfl ?_
      refine wp_iload eX9_weightOf_48 rfl ?_
      refine c_X9_251 eX9_weightOf_50 (ct_accessAt hlen hML.1.2 hs.2.2.2.2.1.1 hs.2.2.2.2.1.2 hs.1.2.2.1 hs.1.2.2.2.1 e43 e44 (t := t) (by omega) ?_)
      rw [(acc_at hs.1 hML.2.1 hML.2.2 hi ⟨h2, by omega⟩).1]
      refine wp_iload_n eX9_weightOf_53 rfl ?_
      refine wp_aload_n eX9_weightOf_54 rfl ?_
      refine wp_iload eX9_weightOf_55 rfl ?_
      refine c_X9_254 eX9_weightOf_57 (ct_tuningAt hlen hML.1.2 hs.2.2.2.2.1.1 hs.2.2.2.2.1.2 hs.1.2.2.1 hs.1.2.2.2.1 e43 e44 (t := t) (by omega) ?_)
      rw [(acc_at hs.1 hML.2.1 hML.2.2 hi ⟨h2, by omega⟩).2]
      refine wp_imul eX9_weightOf_60 ?_
      refine wp_iadd eX9_weightOf_61 ?_
      have b1 := bm_nn (a := f) (b := pg_listen (spM dk fr nd ni sg ln) 0 i t) (A := 99) (B := 9000) hf (pg_listen_rng hpv hi)
      have b2 := pg_wait_rg2 (t := t) hpv hi
      refine wp_i2l eX9_weightOf_62 ?_
      refine wp_lmul eX9_weightOf_63 ?_
      refine wp_ladd eX9_weightOf_64 ?_
      refine lst_2 eX9_weightOf_65 ?_
      refine inc_5 eX9_weightOf_66 ?_
      refine wp_goto eX9_weightOf_69 ?_
      exact ih (t + 1) _ (by omega) (by omega) k
set_option maxHeartbeats 1000000 in
theorem lp_wOut {G : bc_G} {post : bc_R → bc_M → Prop} {dk fr pop bnd : Int → Int} {nd ni sg ln f : Int} {M0 : bc_M} (hs : MS M0 dk fr pop bnd nd ni sg ln) (hf : 0 ≤ f ∧ f ≤ 99) : ∀ (n : Nat) (i w : Int) (Mc : bc_M) (y : Option Value) (h1 : i + n = ni) (h2 : 0 ≤ i) (hLY : LY M0 Mc) (hML : ML Mc dk fr nd ni sg ln) (k : ∀ M' : bc_M, LY M0 M' → ML M' dk fr nd ni sg ln → post (.inr (some (vJ (ws_out pop f (sp_S dk fr nd ni + sg * ln) (fun i t => pg_wait (spM dk fr nd ni sg ln) 0 i t) (fun i t => pg_listen (spM dk fr nd ni sg ln) 0 i t) n i w)))) M'), bc_W G RX9 cX9_weightOf 6 (some .long) 10 0 0 9 [some (vR G 33 0), some (vI f), some (vJ w), none, some (vI i), y] [] Mc post := by
  intro n
  induction n with
  | zero =>
    intro i w Mc y h1 h2 hLY hML k
    have hms := hLY.ms hs
    have hni := hs.1.2.1
    have hlen := hML.len hs.1
    refine wp_iload eX9_weightOf_9 rfl ?_
    refine wp_aload_n eX9_weightOf_11 rfl ?_
    refine gf_X9_79 eX9_weightOf_12 ?_
    rw [hms.2.1.2]
    refine wp_icmp_ge eX9_weightOf_15 (fun c15 => ?_) (fun c15 => ?_)
    · simp only [ws_out] at k
      refine wp_lload_n eX9_weightOf_78 rfl ?_
      refine wp_lreturn eX9_weightOf_79 ?_
      exact k _ hLY hML
    · omega
  | succ n ih =>
    intro i w Mc y h1 h2 hLY hML k
    have hms := hLY.ms hs
    have hni := hs.1.2.1
    have hlen := hML.len hs.1
    refine wp_iload eX9_weightOf_9 rfl ?_
    refine wp_aload_n eX9_weightOf_11 rfl ?_
    refine gf_X9_79 eX9_weightOf_12 ?_
    rw [hms.2.1.2]
    refine wp_icmp_ge eX9_weightOf_15 (fun c15 => ?_) (fun c15 => ?_)
    · omega
    · refine wp_aload_n eX9_weightOf_18 rfl ?_
      refine wp_iload eX9_weightOf_19 rfl ?_
      refine c_X9_248 eX9_weightOf_21 (ct_lay (x := i) (p := Mc 42 0) (len := sp_S dk fr nd ni + sg * ln) hlen (by omega) hML.1.2 rfl (fun t a b => P_rng hs.1 hML.2.1 hML.2.2 ⟨a, b⟩) (fun M1 g1 g2 g3 => ?_))
      have hLY1 : LY Mc M1 := LY.of g1
      have hML1 : ML M1 dk fr nd ni sg ln := hML.rows (fun k9 h9 => g1 k9 0 (by omega))
      have hms1 := hLY1.ms hms
      have hLY2 := hLY.tr hLY1
      have e42 : M1 42 0 = Mc 42 0 := g1 42 0 (by omega)
      refine wp_iconst eX9_weightOf_24 ?_
      refine ist_5 eX9_weightOf_25 ?_
      refine lp_wIn hms1 hML1 hf (i := i) (by omega) (by rw [e42]; exact g2) (by rw [e42]; exact g3) (sp_S dk fr nd ni + sg * ln).toNat 0 w (by omega) (by omega) (fun t9 => ?_)
      simp only [ws_out] at k
      refine inc_4 eX9_weightOf_72 ?_
      refine wp_goto eX9_weightOf_75 ?_
      exact ih (i + 1) _ M1 _ (by omega) (by omega) hLY2 hML1 k
theorem ct_weightOf {G : bc_G} {M : bc_M} {post : bc_R → bc_M → Prop} {dk fr pop bnd : Int → Int} {nd ni sg ln f : Int} (hs : MS M dk fr pop bnd nd ni sg ln) (hf : 0 ≤ f ∧ f ≤ 99) (k : ∀ M' : bc_M, LY M M' → ML M' dk fr nd ni sg ln → post (.inr (some (vJ (sp_WS dk fr pop nd ni sg ln f)))) M') : bc_Call G yX9_weightOf cX9_weightOf 6 (some .long) 10 0 [vR G 33 0, vI f] M post := by
  have hni := hs.1.2.1
  refine bc_enter (L := [some (vR G 33 0), some (vI f), none, none, none, none]) (by decide) rfl rfl ?_
  refine wp_aload_n eX9_weightOf_0 rfl ?_
  refine c_X9_242 eX9_weightOf_1 (ct_layP hs (fun M1 hLY hML => ?_))
  refine wp_lconst0 eX9_weightOf_4 ?_
  refine lst_2 eX9_weightOf_5 ?_
  refine wp_iconst eX9_weightOf_6 ?_
  refine ist_4 eX9_weightOf_7 ?_
  exact lp_wOut hs hf ni.toNat 0 0 M1 none (by omega) (by omega) hLY hML k
