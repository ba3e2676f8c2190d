theorem sp_sum_mul {f : Int → Int} {c : Int} : ∀ n : Nat, sp_sum (fun d => c * f d) n = c * sp_sum f n
  | 0 => by simp [sp_sum]
  | n + 1 => by simp only [sp_sum]; rw [sp_sum_mul n, Int.mul_add]
theorem sp_sum_c {f : Int → Int} {a b : Int} : ∀ n : Nat, sp_sum (fun d => a * f d + b) n = a * sp_sum f n + n * b
  | 0 => by simp [sp_sum]
  | n + 1 => by
    simp only [sp_sum]
    rw [sp_sum_c n, Int.mul_add, show ((n + 1 : Nat) : Int) * b = n * b + b by rw [show ((n + 1 : Nat) : Int) = (n : Int) + 1 by omega, Int.add_mul, Int.one_mul]]
    omega
section S336
variable {dk fr : Int → Int} {nd ni sg ln : Int}
theorem sp_Nz (h : SV dk fr nd ni sg ln) {d : Int} (hd : 0 ≤ d ∧ d < nd) : sp_N dk fr nd ni * sp_z dk fr nd ni d ≤ 6 * sp_m dk ni d + 60 := by
  have hN := (sp_N60 h).1
  have hf := h.2.2.2.2.1 d hd.1 hd.2
  have hm0 := sp_m_rng h d
  by_cases hm : 0 < sp_m dk ni d
  · have h1 := sp_cnt1 h hd hm
    have h2 := sp_z_used h hd hm
    generalize hc : sp_N dk fr nd ni / fr d = c at h1 h2
    have h3 := Int.ediv_mul_add_emod (sp_m dk ni d + c - 1) c
    have h4 := Int.emod_nonneg (sp_m dk ni d + c - 1) (show c ≠ 0 by omega)
    rw [← h2.1] at h3
    generalize sp_z dk fr nd ni d = z at h2 h3 ⊢
    have e1 : sp_N dk fr nd ni * z = fr d * (z * c) := by
      rw [← h1.2, Int.mul_assoc, Int.mul_comm c z]
    have e2 : fr d * (z * c) ≤ fr d * (sp_m dk ni d + c - 1) := Int.mul_le_mul_of_nonneg_left (by omega) (by omega)
    have e3 : fr d * (sp_m dk ni d + c - 1) = fr d * sp_m dk ni d + fr d * c - fr d := by rw [Int.mul_sub, Int.mul_add, Int.mul_one]
    have e4 : fr d * sp_m dk ni d ≤ 6 * sp_m dk ni d := Int.mul_le_mul_of_nonneg_right (by omega) (by omega)
    have := hN.2.1
    omega
  · have hz : sp_z dk fr nd ni d = 0 := by
      unfold sp_z sp_sz
      rw [if_neg (fun q => hm q.1)]
    rw [hz]
    omega
theorem sp_S336 (h : SV dk fr nd ni sg ln) : sp_N dk fr nd ni * sp_RL dk fr nd ni ≤ 336 := by
  have h1 : sp_N dk fr nd ni * sp_RL dk fr nd ni = sp_sum (fun d => sp_N dk fr nd ni * sp_z dk fr nd ni d) nd.toNat := (sp_sum_mul _).symm
  have h2 := sp_sum_le (f := fun d => sp_N dk fr nd ni * sp_z dk fr nd ni d) (g := fun d => 6 * sp_m dk ni d + 60) nd.toNat (fun d a b => sp_Nz h ⟨a, by omega⟩)
  rw [sp_sum_c] at h2
  have h3 := sp_sum_cd (dk := dk) (k := nd.toNat) ni.toNat
  have h4 : sp_sum (sp_m dk ni) nd.toNat = sp_sum (fun d => sp_cd dk d ni.toNat) nd.toNat := rfl
  have h5 := h.1
  have h6 := h.2.1
  omega
theorem sp_NRL (h : SV dk fr nd ni sg ln) : sp_S dk fr nd ni = sp_N dk fr nd ni * sp_RL dk fr nd ni := by
  have hi := sp_dx_rng h (i := 0) (q := 0) (by have := h.2.1; omega) (by
    have hd := h.2.2.2.2.2 0 (by omega) (by have := h.2.1; omega)
    have := h.2.2.2.2.1 (dk 0) hd.1 hd.2
    omega)
  have hrp := sp_rp h (i := 0) (by have := h.2.1; omega)
  simp only at hrp
  have ho := sp_o_rng h (d := dk 0) (by have := h.2.2.2.2.2 0 (by omega) (by have := h.2.1; omega); have := h.1; omega)
  have hN := (sp_N60 h).1.1
  have : 1 * 1 ≤ sp_N dk fr nd ni * sp_RL dk fr nd ni := Int.mul_le_mul (by omega) (by omega) (by omega) (by omega)
  unfold sp_S
  omega
end S336
/-- the item at a place of a disk -/
def sp_it (dk : Int → Int) (ni d p : Int) : Int := it_at (sp_of dk ni d) ni.toNat 0 p
/-- a disk's chunk in a round -/
def sp_ck (dk fr : Int → Int) (nd ni d r : Int) : Int → Int := fun q => sp_it dk ni d (r % (sp_N dk fr nd ni / fr d) * sp_z dk fr nd ni d + q)
/-- data and their number, with a chunk sent -/
def scM (M : bc_M) (g h : Int → Int) (s n : Int) : bc_M := bc_up (bc_row M 41 0 (cpF g h s n)) 33 0 25 (s + n)
theorem scM_st {M : bc_M} {g h : Int → Int} {s n v : Int} (hn : 0 ≤ n) (hv : v = h n) : bc_up (bc_up (scM M g h s n) 41 0 (s + n) v) 33 0 25 (s + n + 1) = scM M g h s (n + 1) := by
  subst hv
  unfold scM
  rw [← cpF_st hn, up_row_c (g := cpF g h s n) (v := s + n) (show (41 : Nat) ≠ 33 by decide), up_row, ← up_row_c (v := s + n) (show (41 : Nat) ≠ 33 by decide), up_up, show s + n + 1 = s + (n + 1) by omega]
theorem scM_0 {M : bc_M} {h : Int → Int} : scM M (M 41 0) h (M 33 0 25) 0 = M := by
  unfold scM
  rw [cpF0, row_self, Int.add_zero, up_same]
theorem scM_sz {M : bc_M} {g h : Int → Int} {s n : Int} : scM M g h s n 33 0 25 = s + n := by
  unfold scM
  rw [up_v, if_pos rfl]
theorem scM_f {M : bc_M} {g h : Int → Int} {s n f : Int} (hf : f ≠ 25) : scM M g h s n 33 0 f = M 33 0 f := by
  unfold scM
  rw [up_v, if_neg hf, row_kne (by decide)]
theorem scM_o {M : bc_M} {g h : Int → Int} {s n : Int} {k : Nat} {j : Int} (h1 : k ≠ 33) (h2 : k ≠ 41) : scM M g h s n k j = M k j := by
  unfold scM
  rw [up_kne h1, row_kne h2]
theorem scM_41 {M : bc_M} {g h : Int → Int} {s n : Int} : scM M g h s n 41 0 = cpF g h s n := by
  unfold scM
  rw [up_kne (by decide), row_at]
theorem lp_send {G : bc_G} {M : bc_M} {post : bc_R → bc_M → Prop} {g : Int → Int} {ni x r N set c z s : Int} {h : Int → Int} (hni : 0 ≤ ni ∧ ni ≤ 16) (e6 : M 33 0 6 = ni) (hset : 0 ≤ set ∧ set < 65536) (hh : ∀ q, h q = it_at set ni.toNat 0 (r % c * z + q)) (hr : 0 ≤ r ∧ r ≤ 60) (hc : 1 ≤ c ∧ c ≤ 60) (hz : 0 ≤ z ∧ z ≤ 16) (hb : 0 ≤ r % c * z ∧ r % c * z ≤ 16 * 60) (hs : 0 ≤ s ∧ s + z ≤ 600) : ∀ (n : Nat) (q : Int) (h1 : q + n = z) (h2 : 0 ≤ q) (k : post (.inr none) (scM M g h s z)), bc_W G RX9 cX9_sendChunk 8 none 3 0 0 44 [some (vR G 33 0), some (vI x), some (vI r), some (vI N), some (vI set), some (vI c), some (vI z), some (vI q)] [] (scM M g h s q) post := by
  intro n
  induction n with
  | zero =>
    intro q h1 h2 k
    refine wp_iload eX9_sendChunk_44 rfl ?_
    refine wp_iload eX9_sendChunk_46 rfl ?_
    refine wp_icmp_ge eX9_sendChunk_48 (fun c48 => ?_) (fun c48 => ?_)
    · have hq : q = z := by omega
      subst hq
      refine wp_return eX9_sendChunk_92 ?_
      exact k
    · omega
  | succ n ih =>
    intro q h1 h2 k
    refine wp_iload eX9_sendChunk_44 rfl ?_
    refine wp_iload eX9_sendChunk_46 rfl ?_
    refine wp_icmp_ge eX9_sendChunk_48 (fun c48 => ?_) (fun c48 => ?_)
    · omega
    · refine wp_aload_n eX9_sendChunk_51 rfl ?_
      refine gf_X9_35 eX9_sendChunk_52 ?_
      refine wp_aload_n eX9_sendChunk_55 rfl ?_
      refine gf_X9_218 eX9_sendChunk_56 ?_
      rw [scM_sz]
      refine wp_aload_n eX9_sendChunk_59 rfl ?_
      refine wp_iload eX9_sendChunk_60 rfl ?_
      refine wp_iload_n eX9_sendChunk_62 rfl ?_
      refine wp_iload eX9_sendChunk_63 rfl ?_
      refine wp_irem eX9_sendChunk_65 ?_
      refine wp_iload eX9_sendChunk_66 rfl ?_
      refine wp_imul eX9_sendChunk_68 ?_
      refine wp_iload eX9_sendChunk_69 rfl ?_
      refine wp_iadd eX9_sendChunk_71 ?_
      refine c_X9_221 eX9_sendChunk_72 (ct_itemAt (ni := ni) (by omega) (by rw [scM_f (by decide)]; exact e6) hset (by omega) ?_)
      refine as_41 eX9_sendChunk_75 ?_
      refine wp_aload_n eX9_sendChunk_76 rfl ?_
      refine wp_dup eX9_sendChunk_77 ?_
      refine gf_X9_218 eX9_sendChunk_78 ?_
      rw [up_kne (by decide), scM_sz]
      refine wp_iconst eX9_sendChunk_81 ?_
      refine wp_iadd eX9_sendChunk_82 ?_
      refine pf_X9_218 eX9_sendChunk_83 ?_
      refine inc_7 eX9_sendChunk_86 ?_
      refine wp_goto eX9_sendChunk_89 ?_
      rw [scM_st h2 (hh q).symm]
      exact ih (q + 1) (by omega) (by omega) k
theorem ct_sendChunk {G : bc_G} {M : bc_M} {post : bc_R → bc_M → Prop} {nd ni sg ln : Int} {dk fr : Int → Int} (hV : SV dk fr nd ni sg ln) (e5 : M 33 0 5 = nd) (e6 : M 33 0 6 = ni) (edk : ∀ i, 0 ≤ i → i < 16 → M 34 0 (16 + i) = dk i) (efr : ∀ d, 0 ≤ d → d < 4 → M 34 0 (48 + d) = fr d) {x r : Int} (hx : 0 ≤ x ∧ x < nd) (hr : 0 ≤ r ∧ r < sp_N dk fr nd ni) (hs : 0 ≤ M 33 0 25 ∧ M 33 0 25 + sp_z dk fr nd ni x ≤ 600) (k : post (.inr none) (scM M (M 41 0) (sp_ck dk fr nd ni x r) (M 33 0 25) (sp_z dk fr nd ni x))) : bc_Call G yX9_sendChunk cX9_sendChunk 8 none 3 0 [vR G 33 0, vI x, vI r, vI (sp_N dk fr nd ni)] M post := by
  have hvn := hV.1
  have hvi := hV.2.1
  refine bc_enter (L := [some (vR G 33 0), some (vI x), some (vI r), some (vI (sp_N dk fr nd ni)), none, none, none, none]) (by decide) rfl rfl ?_
  refine wp_aload_n eX9_sendChunk_0 rfl ?_
  refine wp_iload_n eX9_sendChunk_1 rfl ?_
  refine c_X9_208 eX9_sendChunk_2 (ct_itemsOn (ni := ni) (dk := dk) (by omega) e6 edk (fun i a b => by have := hV.2.2.2.2.2 i a b; omega) (x := x) (by omega) ?_)
  have hor := sp_of_rng (dk := dk) (ni := ni) (d := x) (by omega)
  have hcnt := sp_of_cnt (dk := dk) (ni := ni) (d := x) (by omega)
  refine ist_4 eX9_sendChunk_5 ?_
  refine wp_iload eX9_sendChunk_7 rfl ?_
  refine wp_if_ne eX9_sendChunk_9 (fun c9 => ?_) (fun c9 => ?_)
  · have hm : 0 < sp_m dk ni x := by
      rw [← hcnt]
      exact bs_cnt_pos (by omega) (by omega)
    have h1 := sp_cnt1 hV hx hm
    have hm16 := sp_m_rng hV x
    have h2 := sp_z_used hV hx hm
    refine wp_iload_n eX9_sendChunk_13 rfl ?_
    refine wp_aload_n eX9_sendChunk_14 rfl ?_
    refine gf_X9_7 eX9_sendChunk_15 ?_
    refine wp_bipush eX9_sendChunk_18 ?_
    refine wp_iload_n eX9_sendChunk_20 rfl ?_
    refine wp_iadd eX9_sendChunk_21 ?_
    refine al_34 eX9_sendChunk_22 ?_
    rw [efr x (by omega) (by omega)]
    have hf1 := hV.2.2.2.2.1 x hx.1 hx.2
    have hN := (sp_N60 hV).1
    have hN1 := hN.1
    have hN2 := hN.2.1
    refine wp_idiv eX9_sendChunk_23 ?_
    have hc60 : sp_N dk fr nd ni / fr x ≤ 60 := by
      have := Int.ediv_le_self (a := sp_N dk fr nd ni) (fr x) (by omega)
      omega
    refine ist_5 eX9_sendChunk_24 ?_
    refine wp_iload eX9_sendChunk_26 rfl ?_
    refine c_X9_215 eX9_sendChunk_28 (ct_mMany hor ?_)
    rw [hcnt]
    refine wp_iload eX9_sendChunk_31 rfl ?_
    refine wp_iadd eX9_sendChunk_33 ?_
    refine wp_iconst eX9_sendChunk_34 ?_
    refine wp_isub eX9_sendChunk_35 ?_
    refine wp_iload eX9_sendChunk_36 rfl ?_
    refine wp_idiv eX9_sendChunk_38 ?_
    refine ist_6 eX9_sendChunk_39 ?_
    refine wp_iconst eX9_sendChunk_41 ?_
    refine ist_7 eX9_sendChunk_42 ?_
    rw [← h2.1]
    have hzr := sp_z_rng hV x
    have hm1 := Int.emod_nonneg r (show sp_N dk fr nd ni / fr x ≠ 0 by omega)
    have hm2 := Int.emod_lt_of_pos r (show 0 < sp_N dk fr nd ni / fr x by omega)
    have hb := bm_nn (a := r % (sp_N dk fr nd ni / fr x)) (b := sp_z dk fr nd ni x) (A := 60) (B := 16) (by omega) hzr
    have hM := scM_0 (M := M) (h := sp_ck dk fr nd ni x r)
    rw [← hM]
    exact lp_send (ni := ni) (by omega) e6 hor (fun q => rfl) (by omega) (by omega) hzr (by omega) hs (sp_z dk fr nd ni x).toNat 0 (by omega) (by omega) k
  · have hm : ¬ 0 < sp_m dk ni x := by
      rw [← hcnt, show sp_of dk ni x = 0 by omega]
      decide
    have hz : sp_z dk fr nd ni x = 0 := by
      unfold sp_z sp_sz
      rw [if_neg (fun q => hm q.1)]
    rw [hz, scM_0] at k
    refine wp_return eX9_sendChunk_12 ?_
    exact k
/-- the chunks before that of disk d in round r lie where they belong -/
def DI (dk fr : Int → Int) (nd ni : Int) (g : Int → Int) (r d : Int) : Prop := ∀ r' d' q, 0 ≤ r' → 0 ≤ d' → d' < nd → (r' < r ∨ (r' = r ∧ d' < d)) → 0 ≤ q → q < sp_z dk fr nd ni d' → g (r' * sp_RL dk fr nd ni + sp_o dk fr nd ni d' + q) = sp_ck dk fr nd ni d' r' q
section DIS
variable {dk fr : Int → Int} {nd ni sg ln : Int}
theorem sp_o_mono (h : SV dk fr nd ni sg ln) {d d' : Int} (h0 : 0 ≤ d') (h1 : d' < d) : sp_o dk fr nd ni d' + sp_z dk fr nd ni d' ≤ sp_o dk fr nd ni d := by
  have := sp_sum_part (f := sp_z dk fr nd ni) d.toNat d'.toNat (by omega) (fun q _ _ => (sp_z_rng h q).1)
  rw [show ((d'.toNat : Nat) : Int) = d' by omega] at this
  exact this
theorem sp_o_nd {d : Int} (hd : d = nd) : sp_o dk fr nd ni d = sp_RL dk fr nd ni := by subst hd; rfl
theorem sp_o_s {d : Int} (h0 : 0 ≤ d) : sp_o dk fr nd ni (d + 1) = sp_o dk fr nd ni d + sp_z dk fr nd ni d := by
  unfold sp_o
  rw [show (d + 1).toNat = d.toNat + 1 by omega]
  simp only [sp_sum]
  rw [show ((d.toNat : Nat) : Int) = d by omega]
theorem DI_st (h : SV dk fr nd ni sg ln) {g : Int → Int} {r d : Int} (hd : 0 ≤ d ∧ d < nd) (hr : 0 ≤ r) (hg : DI dk fr nd ni g r d) : DI dk fr nd ni (cpF g (sp_ck dk fr nd ni d r) (r * sp_RL dk fr nd ni + sp_o dk fr nd ni d) (sp_z dk fr nd ni d)) r (d + 1) := by
  intro r' d' q a b c hl x y
  have hRL := (sp_RL_rng h).1
  unfold cpF
  by_cases heq : r' = r ∧ d' = d
  · obtain ⟨u, v⟩ := heq
    subst u v
    rw [if_pos ⟨by omega, by omega⟩]
    congr 1
    omega
  · have hlt : r' * sp_RL dk fr nd ni + sp_o dk fr nd ni d' + q < r * sp_RL dk fr nd ni + sp_o dk fr nd ni d := by
      by_cases hrr : r' = r
      · subst hrr
        have := sp_o_mono h b (show d' < d by omega)
        omega
      · have h1 : (r' + 1) * sp_RL dk fr nd ni ≤ r * sp_RL dk fr nd ni := Int.mul_le_mul_of_nonneg_right (by omega) hRL
        rw [Int.add_mul, Int.one_mul] at h1
        have h2 := sp_o_mono h b c
        rw [sp_o_nd rfl] at h2
        have h3 := (sp_o_rng h (d := d) (by have := h.1; omega)).1
        omega
    rw [if_neg (by omega)]
    exact hg r' d' q a b c (by omega) x y
theorem DI_r {g : Int → Int} {r : Int} (hg : DI dk fr nd ni g r nd) : DI dk fr nd ni g (r + 1) 0 := by
  intro r' d' q a b c hl x y
  exact hg r' d' q a b c (by omega) x y
theorem DI_0 {g : Int → Int} : DI dk fr nd ni g 0 0 := by
  intro r' d' q a b c hl x y
  omega
end DIS
theorem lp_chunks {G : bc_G} {post : bc_R → bc_M → Prop} {nd ni sg ln : Int} {M0 : bc_M} {dk fr : Int → Int} (hV : SV dk fr nd ni sg ln) (e5 : M0 33 0 5 = nd) (e6 : M0 33 0 6 = ni) (edk : ∀ i, 0 ≤ i → i < 16 → M0 34 0 (16 + i) = dk i) (efr : ∀ d, 0 ≤ d → d < 4 → M0 34 0 (48 + d) = fr d) {r : Int} (hr : 0 ≤ r ∧ r < sp_N dk fr nd ni) : ∀ (n : Nat) (x : Int) (Mc : bc_M) (h1 : x + n = nd) (h2 : 0 ≤ x) (hF : Fr (fun k' j' => (k' = 33 ∨ k' = 41) ∧ j' = 0) M0 Mc) (hf33 : ∀ f, f ≠ 25 → Mc 33 0 f = M0 33 0 f) (e25 : Mc 33 0 25 = r * sp_RL dk fr nd ni + sp_o dk fr nd ni x) (hDI : DI dk fr nd ni (Mc 41 0) r x) (k : ∀ M' : bc_M, Fr (fun k' j' => (k' = 33 ∨ k' = 41) ∧ j' = 0) M0 M' → (∀ f, f ≠ 25 → M' 33 0 f = M0 33 0 f) → M' 33 0 25 = (r + 1) * sp_RL dk fr nd ni → DI dk fr nd ni (M' 41 0) (r + 1) 0 → bc_W G RX9 cX9_layProgram 5 none 9 0 0 40 [some (vR G 33 0), some (vI (sp_N dk fr nd ni)), some (vI r), some (vI nd), none] [] M' post), bc_W G RX9 cX9_layProgram 5 none 9 0 0 19 [some (vR G 33 0), some (vI (sp_N dk fr nd ni)), some (vI r), some (vI x), none] [] Mc post := by
  intro n
  induction n with
  | zero =>
    intro x Mc h1 h2 hF hf33 e25 hDI k
    have hvn := hV.1
    have hS := sp_S336 hV
    have hRL := (sp_RL_rng hV).1
    have hzx := sp_z_rng hV x
    have hox := sp_o_rng hV (d := x) (by omega)
    have hsz : 0 ≤ r * sp_RL dk fr nd ni := Int.mul_nonneg hr.1 hRL
    have hle : (r + 1) * sp_RL dk fr nd ni ≤ sp_N dk fr nd ni * sp_RL dk fr nd ni := Int.mul_le_mul_of_nonneg_right (by omega) hRL
    rw [Int.add_mul, Int.one_mul] at hle
    refine wp_iload_n eX9_layProgram_19 rfl ?_
    refine wp_aload_n eX9_layProgram_20 rfl ?_
    refine gf_X9_72 eX9_layProgram_21 ?_
    rw [hf33 5 (by decide), e5]
    refine wp_icmp_ge eX9_layProgram_24 (fun c24 => ?_) (fun c24 => ?_)
    · have hx : x = nd := by omega
      subst hx
      exact k Mc hF hf33 (by rw [e25, sp_o_nd rfl, Int.add_mul, Int.one_mul]) (DI_r hDI)
    · omega
  | succ n ih =>
    intro x Mc h1 h2 hF hf33 e25 hDI k
    have hvn := hV.1
    have hS := sp_S336 hV
    have hRL := (sp_RL_rng hV).1
    have hzx := sp_z_rng hV x
    have hox := sp_o_rng hV (d := x) (by omega)
    have hsz : 0 ≤ r * sp_RL dk fr nd ni := Int.mul_nonneg hr.1 hRL
    have hle : (r + 1) * sp_RL dk fr nd ni ≤ sp_N dk fr nd ni * sp_RL dk fr nd ni := Int.mul_le_mul_of_nonneg_right (by omega) hRL
    rw [Int.add_mul, Int.one_mul] at hle
    refine wp_iload_n eX9_layProgram_19 rfl ?_
    refine wp_aload_n eX9_layProgram_20 rfl ?_
    refine gf_X9_72 eX9_layProgram_21 ?_
    rw [hf33 5 (by decide), e5]
    refine wp_icmp_ge eX9_layProgram_24 (fun c24 => ?_) (fun c24 => ?_)
    · omega
    · refine wp_aload_n eX9_layProgram_27 rfl ?_
      refine wp_iload_n eX9_layProgram_28 rfl ?_
      refine wp_iload_n eX9_layProgram_29 rfl ?_
      refine wp_iload_n eX9_layProgram_30 rfl ?_
      refine c_X9_227 eX9_layProgram_31 (ct_sendChunk hV (by rw [hf33 5 (by decide)]; exact e5) (by rw [hf33 6 (by decide)]; exact e6) (by rw [hF 34 0 (by omega)]; exact edk) (by rw [hF 34 0 (by omega)]; exact efr) (x := x) (r := r) (by omega) hr (by omega) ?_)
      have hd2 := DI_st hV ⟨h2, by omega⟩ hr.1 hDI
      rw [← e25] at hd2
      refine inc_3 eX9_layProgram_34 ?_
      refine wp_goto eX9_layProgram_37 ?_
      refine ih (x + 1) _ (by omega) (by omega) (Fr.tr hF ?_) (fun f hf => by rw [scM_f hf]; exact hf33 f hf) (by rw [scM_sz, e25, sp_o_s h2]; omega) (by rw [scM_41]; exact hd2) k
      intro k9 j9 h9
      unfold scM
      simp only [bc_up, bc_row]
      rw [if_neg (by omega), if_neg (by omega)]
