def chM (k : Nat) (f : Int) (M : bc_M) (g h : Int → Int) (s n : Int) : bc_M := bc_up (bc_row M k 0 (cpF g h s n)) 33 0 f (s + n)
section CHM
variable {k : Nat} {f : Int} {M : bc_M} {g h : Int → Int} {s n : Int}
theorem chM_st {v : Int} (hk : k ≠ 33) (hn : 0 ≤ n) (hv : v = h n) : bc_up (bc_up (chM k f M g h s n) k 0 (s + n) v) 33 0 f (s + n + 1) = chM k f M g h s (n + 1) := by
  subst hv
  unfold chM
  rw [← cpF_st hn, up_row_c (g := cpF g h s n) (v := s + n) hk, up_row, ← up_row_c (v := s + n) hk, up_up, show s + n + 1 = s + (n + 1) by omega]
theorem chM_0 : chM k f M (M k 0) h (M 33 0 f) 0 = M := by
  unfold chM
  rw [cpF0, row_self, Int.add_zero, up_same]
theorem chM_sz : chM k f M g h s n 33 0 f = s + n := by
  unfold chM
  rw [up_v, if_pos rfl]
theorem chM_f {f' : Int} (hk : k ≠ 33) (hf : f' ≠ f) : chM k f M g h s n 33 0 f' = M 33 0 f' := by
  unfold chM
  rw [up_v, if_neg hf, row_kne (Ne.symm hk)]
theorem chM_o {k' : Nat} {j : Int} (h1 : k' ≠ 33) (h2 : k' ≠ k) : chM k f M g h s n k' j = M k' j := by
  unfold chM
  rw [up_kne h1, row_kne h2]
theorem chM_at (hk : k ≠ 33) : chM k f M g h s n k 0 = cpF g h s n := by
  unfold chM
  rw [up_kne hk, row_at]
theorem chM_fr : Fr (fun k' j' => (k' = 33 ∨ k' = k) ∧ j' = 0) M (chM k f M g h s n) := by
  intro k9 j9 h9
  unfold chM
  simp only [bc_up, bc_row]
  rw [if_neg (by omega), if_neg (by omega)]
end CHM
/-- the start of segment k among the data -/
def sg_x (sg S k : Int) : Int := k * S / sg
/-- the program with k segments and x data sent -/
def PP (D p : Int → Int) (sg S ln len k x : Int) : Prop := (∀ y, 0 ≤ y → y < x → (0 ≤ sp_tm sg S ln y ∧ sp_tm sg S ln y < len) ∧ p (sp_tm sg S ln y) = D y) ∧ (∀ q v, 0 ≤ q → q < k → 0 ≤ v → v < ln → (0 ≤ sg_x sg S q + q * ln + v ∧ sg_x sg S q + q * ln + v < len) ∧ p (sg_x sg S q + q * ln + v) = -3 - v) ∧ ∀ t, 0 ≤ t → t < len → (∃ y, 0 ≤ y ∧ y < x ∧ t = sp_tm sg S ln y) ∨ ∃ q v, 0 ≤ q ∧ q < k ∧ 0 ≤ v ∧ v < ln ∧ t = sg_x sg S q + q * ln + v
def PK (sg S k x : Int) : Prop := (0 ≤ k ∧ k ≤ sg) ∧ (∀ q, 0 ≤ q → q < k → sg_x sg S q ≤ x) ∧ (k < sg → x ≤ sg_x sg S k)
theorem sg_x_le {sg S a x : Int} (hg : 0 < sg) : sg_x sg S a ≤ x ↔ a * S < (x + 1) * sg := by
  unfold sg_x
  rw [show a * S / sg ≤ x ↔ a * S / sg < x + 1 from by omega]
  exact Int.ediv_lt_iff_lt_mul hg
theorem sg_x_mono {sg S a b : Int} (hg : 0 < sg) (hS : 0 ≤ S) (h : a ≤ b) : sg_x sg S a ≤ sg_x sg S b := Int.ediv_le_ediv hg (Int.mul_le_mul_of_nonneg_right h hS)
theorem tm_eq {sg S ln k x : Int} (hg : 0 ≤ sg) (hS : 0 < S) (hx : 0 ≤ x) (h : PK sg S k x) (hk : k = sg ∨ sg_x sg S k ≠ x) (hxS : x < S) : sp_tm sg S ln x = x + k * ln := by
  obtain ⟨h1, h2, h3⟩ := h
  unfold sp_tm
  split
  · rename_i h0
    have : k = 0 := by omega
    subst this
    omega
  · rename_i h0
    have hlow : k - 1 ≤ ((x + 1) * sg - 1) / S := by
      by_cases hk0 : k = 0
      · have : 0 ≤ ((x + 1) * sg - 1) / S := by
          apply Int.ediv_nonneg _ (by omega)
          have : 1 * 1 ≤ (x + 1) * sg := Int.mul_le_mul (by omega) (by omega) (by omega) (by omega)
          omega
        omega
      · have := (sg_x_le (by omega)).mp (h2 (k - 1) (by omega) (by omega))
        exact Int.le_ediv_of_mul_le hS (by omega)
    have hup : ((x + 1) * sg - 1) / S < k := by
      apply ediv_lt hS
      by_cases hks : k = sg
      · subst hks
        have : (x + 1) * k ≤ S * k := Int.mul_le_mul_of_nonneg_right (by omega) (by omega)
        rw [Int.mul_comm k S]
        omega
      · have h4 := h3 (by omega)
        have h5 : sg_x sg S k ≠ x := hk.resolve_left hks
        have h6 : ¬ sg_x sg S k ≤ x := by omega
        rw [sg_x_le (by omega)] at h6
        omega
    rw [show ((x + 1) * sg - 1) / S + 1 = k by omega]
theorem PP_data {D p : Int → Int} {sg S ln len k x v : Int} (h : PP D p sg S ln len k x) (hx : 0 ≤ x) (hl : 0 ≤ len) (ht : sp_tm sg S ln x = len) (hv : v = D x) : PP D (bc_u p len v) sg S ln (len + 1) k (x + 1) := by
  obtain ⟨h1, h2, h3⟩ := h
  refine ⟨fun y a b => ?_, fun q w a b c d => ?_, fun t a b => ?_⟩
  · by_cases hy : y = x
    · subst hy
      rw [ht, u_at]
      exact ⟨by omega, hv⟩
    · have := h1 y a (by omega)
      rw [u_ne (by omega)]
      exact ⟨by omega, this.2⟩
  · have := h2 q w a b c d
    rw [u_ne (by omega)]
    exact ⟨by omega, this.2⟩
  · by_cases hy : t = len
    · exact Or.inl ⟨x, by omega, by omega, by omega⟩
    · rcases h3 t a (by omega) with ⟨y, q1, q2, q3⟩ | q
      · exact Or.inl ⟨y, q1, by omega, q3⟩
      · exact Or.inr q
theorem PP_seg {D p : Int → Int} {sg S ln len k x : Int} (h : PP D p sg S ln len k x) (hk : 0 ≤ k) (hl : 0 ≤ len) (hn : 0 ≤ ln) (he : len = sg_x sg S k + k * ln) : PP D (cpF p (fun v => -3 - v) len ln) sg S ln (len + ln) (k + 1) x := by
  obtain ⟨h1, h2, h3⟩ := h
  refine ⟨fun y a b => ?_, fun q w a b c d => ?_, fun t a b => ?_⟩
  · have := h1 y a b
    unfold cpF
    rw [if_neg (by omega)]
    exact ⟨by omega, this.2⟩
  · by_cases hq : q = k
    · subst hq
      refine ⟨by omega, ?_⟩
      unfold cpF
      rw [if_pos (by omega)]
      show -3 - (sg_x sg S q + q * ln + w - len) = -3 - w
      omega
    · have := h2 q w a (by omega) c d
      refine ⟨by omega, ?_⟩
      unfold cpF
      rw [if_neg (by omega)]
      exact this.2
  · by_cases ht : t < len
    · rcases h3 t a ht with q | ⟨q, w, q1, q2, q3, q4, q5⟩
      · exact Or.inl q
      · exact Or.inr ⟨q, w, q1, by omega, q3, q4, q5⟩
    · exact Or.inr ⟨k, t - len, hk, by omega, by omega, by omega, by omega⟩
theorem lp_rows {G : bc_G} {post : bc_R → bc_M → Prop} {nd ni sg ln : Int} {M0 : bc_M} {dk fr : Int → Int} (hV : SV dk fr nd ni sg ln) (e5 : M0 33 0 5 = nd) (e6 : M0 33 0 6 = ni) (edk : ∀ i, 0 ≤ i → i < 16 → M0 34 0 (16 + i) = dk i) (efr : ∀ d, 0 ≤ d → d < 4 → M0 34 0 (48 + d) = fr d) : ∀ (n : Nat) (r : Int) (Mc : bc_M) (y : Option Value) (h1 : r + n = sp_N dk fr nd ni) (h2 : 0 ≤ r) (hF : Fr (fun k' j' => (k' = 33 ∨ k' = 41) ∧ j' = 0) M0 Mc) (hf33 : ∀ f, f ≠ 25 → Mc 33 0 f = M0 33 0 f) (e25 : Mc 33 0 25 = r * sp_RL dk fr nd ni) (hDI : DI dk fr nd ni (Mc 41 0) r 0) (k : ∀ M' : bc_M, Fr (fun k' j' => (k' = 33 ∨ k' = 41) ∧ j' = 0) M0 M' → (∀ f, f ≠ 25 → M' 33 0 f = M0 33 0 f) → M' 33 0 25 = sp_N dk fr nd ni * sp_RL dk fr nd ni → DI dk fr nd ni (M' 41 0) (sp_N dk fr nd ni) 0 → ∀ y : Option Value, bc_W G RX9 cX9_layProgram 5 none 9 0 0 46 [some (vR G 33 0), some (vI (sp_N dk fr nd ni)), some (vI (sp_N dk fr nd ni)), y, none] [] M' post), bc_W G RX9 cX9_layProgram 5 none 9 0 0 12 [some (vR G 33 0), some (vI (sp_N dk fr nd ni)), some (vI r), y, none] [] Mc post := by
  intro n
  induction n with
  | zero =>
    intro r Mc y h1 h2 hF hf33 e25 hDI k
    have hvn := hV.1
    have hN60 := (sp_N60 hV).1.2.1
    refine wp_iload_n eX9_layProgram_12 rfl ?_
    refine wp_iload_n eX9_layProgram_13 rfl ?_
    refine wp_icmp_ge eX9_layProgram_14 (fun c14 => ?_) (fun c14 => ?_)
    · have hr9 : r = sp_N dk fr nd ni := by omega
      subst hr9
      exact k Mc hF hf33 e25 hDI _
    · omega
  | succ n ih =>
    intro r Mc y h1 h2 hF hf33 e25 hDI k
    have hvn := hV.1
    have hN60 := (sp_N60 hV).1.2.1
    refine wp_iload_n eX9_layProgram_12 rfl ?_
    refine wp_iload_n eX9_layProgram_13 rfl ?_
    refine wp_icmp_ge eX9_layProgram_14 (fun c14 => ?_) (fun c14 => ?_)
    · omega
    · refine wp_iconst eX9_layProgram_17 ?_
      refine ist_3 eX9_layProgram_18 ?_
      refine lp_chunks hV e5 e6 edk efr (r := r) (by omega) nd.toNat 0 Mc (by omega) (by omega) hF hf33 (by rw [e25, show sp_o dk fr nd ni 0 = 0 from rfl, Int.add_zero]) hDI (fun M' g1 g2 g3 g4 => ?_)
      refine inc_2 eX9_layProgram_40 ?_
      refine wp_goto eX9_layProgram_43 ?_
      exact ih (r + 1) M' _ (by omega) (by omega) g1 g2 g3 g4 k
theorem lp_seg {G : bc_G} {M : bc_M} {post : bc_R → bc_M → Prop} {N kq x ln s : Int} {p : Int → Int} (e53 : M 34 0 53 = ln) (hln : 1 ≤ ln ∧ ln ≤ 4) (hs : 0 ≤ s ∧ s + ln ≤ 700) : ∀ (n : Nat) (v : Int) (h1 : v + n = ln) (h2 : 0 ≤ v) (k : bc_W G RX9 cX9_layProgram 5 none 9 0 0 137 [some (vR G 33 0), some (vI N), some (vI kq), some (vI x), some (vI ln)] [] (chM 42 27 M p (fun v => -3 - v) s ln) post), bc_W G RX9 cX9_layProgram 5 none 9 0 0 95 [some (vR G 33 0), some (vI N), some (vI kq), some (vI x), some (vI v)] [] (chM 42 27 M p (fun v => -3 - v) s v) post := by
  intro n
  induction n with
  | zero =>
    intro v h1 h2 k
    refine wp_iload eX9_layProgram_95 rfl ?_
    refine wp_aload_n eX9_layProgram_97 rfl ?_
    refine gf_X9_7 eX9_layProgram_98 ?_
    refine wp_bipush eX9_layProgram_101 ?_
    refine al_34 eX9_layProgram_103 ?_
    rw [chM_o (by decide) (by decide), e53]
    refine wp_icmp_ge eX9_layProgram_104 (fun c104 => ?_) (fun c104 => ?_)
    · have hv : v = ln := by omega
      subst hv
      exact k
    · omega
  | succ n ih =>
    intro v h1 h2 k
    refine wp_iload eX9_layProgram_95 rfl ?_
    refine wp_aload_n eX9_layProgram_97 rfl ?_
    refine gf_X9_7 eX9_layProgram_98 ?_
    refine wp_bipush eX9_layProgram_101 ?_
    refine al_34 eX9_layProgram_103 ?_
    rw [chM_o (by decide) (by decide), e53]
    refine wp_icmp_ge eX9_layProgram_104 (fun c104 => ?_) (fun c104 => ?_)
    · omega
    · refine wp_aload_n eX9_layProgram_107 rfl ?_
      refine gf_X9_38 eX9_layProgram_108 ?_
      refine wp_aload_n eX9_layProgram_111 rfl ?_
      refine gf_X9_231 eX9_layProgram_112 ?_
      rw [chM_sz]
      refine wp_bipush eX9_layProgram_115 ?_
      refine wp_iload eX9_layProgram_117 rfl ?_
      refine wp_isub eX9_layProgram_119 ?_
      refine as_42 eX9_layProgram_120 ?_
      refine wp_aload_n eX9_layProgram_121 rfl ?_
      refine wp_dup eX9_layProgram_122 ?_
      refine gf_X9_231 eX9_layProgram_123 ?_
      rw [up_kne (by decide), chM_sz]
      refine wp_iconst eX9_layProgram_126 ?_
      refine wp_iadd eX9_layProgram_127 ?_
      refine pf_X9_231 eX9_layProgram_128 ?_
      refine inc_4 eX9_layProgram_131 ?_
      refine wp_goto eX9_layProgram_134 ?_
      rw [chM_st (by decide) h2 rfl]
      exact ih (v + 1) (by omega) (by omega) k
theorem lp_while {G : bc_G} {post : bc_R → bc_M → Prop} {N S sg ln x : Int} {D : Int → Int} {M0 : bc_M} (hg : 0 ≤ sg ∧ sg ≤ 8) (hl : 1 ≤ ln ∧ ln ≤ 4) (hS : 1 ≤ S ∧ S ≤ 336) (hx : 0 ≤ x ∧ x < S) (e52 : M0 34 0 52 = sg) (e53 : M0 34 0 53 = ln) (e25 : M0 33 0 25 = S) : ∀ (n : Nat) (kq : Int) (Mc : bc_M) (y : Option Value) (h1 : kq + n = sg) (hF : Fr (fun k' j' => (k' = 33 ∨ k' = 42) ∧ j' = 0) M0 Mc) (hf33 : ∀ f, f ≠ 27 → Mc 33 0 f = M0 33 0 f) (e27 : Mc 33 0 27 = x + kq * ln) (hPK : PK sg S kq x) (hPP : PP D (Mc 42 0) sg S ln (x + kq * ln) kq x) (k : ∀ (kr : Int) (M' : bc_M) (y : Option Value), Fr (fun k' j' => (k' = 33 ∨ k' = 42) ∧ j' = 0) M0 M' → (∀ f, f ≠ 27 → M' 33 0 f = M0 33 0 f) → (kr = sg ∨ sg_x sg S kr ≠ x) → M' 33 0 27 = x + kr * ln → PK sg S kr x → PP D (M' 42 0) sg S ln (x + kr * ln) kr x → bc_W G RX9 cX9_layProgram 5 none 9 0 0 143 [some (vR G 33 0), some (vI N), some (vI kr), some (vI x), y] [] M' post), bc_W G RX9 cX9_layProgram 5 none 9 0 0 63 [some (vR G 33 0), some (vI N), some (vI kq), some (vI x), y] [] Mc post := by
  intro n
  induction n with
  | zero =>
    intro kq Mc y h1 hF hf33 e27 hPK hPP k
    have hkk := hPK.1
    have hkl := bm_nn (a := kq) (b := ln) (A := 8) (B := 4) (by omega) (by omega)
    refine wp_iload_n eX9_layProgram_63 rfl ?_
    refine wp_aload_n eX9_layProgram_64 rfl ?_
    refine gf_X9_7 eX9_layProgram_65 ?_
    refine wp_bipush eX9_layProgram_68 ?_
    refine al_34 eX9_layProgram_70 ?_
    rw [hF 34 0 (by omega), e52]
    refine wp_icmp_ge eX9_layProgram_71 (fun c71 => ?_) (fun c71 => ?_)
    · exact k kq Mc _ hF hf33 (Or.inl (by omega)) e27 hPK hPP
    · omega
  | succ n ih =>
    intro kq Mc y h1 hF hf33 e27 hPK hPP k
    have hkk := hPK.1
    have hkl := bm_nn (a := kq) (b := ln) (A := 8) (B := 4) (by omega) (by omega)
    refine wp_iload_n eX9_layProgram_63 rfl ?_
    refine wp_aload_n eX9_layProgram_64 rfl ?_
    refine gf_X9_7 eX9_layProgram_65 ?_
    refine wp_bipush eX9_layProgram_68 ?_
    refine al_34 eX9_layProgram_70 ?_
    rw [hF 34 0 (by omega), e52]
    refine wp_icmp_ge eX9_layProgram_71 (fun c71 => ?_) (fun c71 => ?_)
    · exact k kq Mc _ hF hf33 (Or.inl (by omega)) e27 hPK hPP
    · refine wp_iload_n eX9_layProgram_74 rfl ?_
      refine wp_aload_n eX9_layProgram_75 rfl ?_
      refine gf_X9_218 eX9_layProgram_76 ?_
      rw [hf33 25 (by decide), e25]
      refine wp_imul eX9_layProgram_79 ?_
      refine wp_aload_n eX9_layProgram_80 rfl ?_
      refine gf_X9_7 eX9_layProgram_81 ?_
      refine wp_bipush eX9_layProgram_84 ?_
      refine al_34 eX9_layProgram_86 ?_
      rw [hF 34 0 (by omega), e52]
      have hks := bm_nn (a := kq) (b := S) (A := 8) (B := 336) (by have := hPK.1; omega) (by omega)
      refine wp_idiv eX9_layProgram_87 ?_
      refine wp_iload_n eX9_layProgram_88 rfl ?_
      rw [show kq * S / sg = sg_x sg S kq from rfl]
      have hsx : 0 ≤ sg_x sg S kq ∧ sg_x sg S kq ≤ 2688 := by
        unfold sg_x
        have h8 := Int.ediv_le_self (a := kq * S) sg hks.1
        exact ⟨Int.ediv_nonneg hks.1 (by omega), by omega⟩
      refine wp_icmp_ne eX9_layProgram_89 (fun c89 => ?_) (fun c89 => ?_)
      · exact k kq Mc _ hF hf33 (Or.inr c89) e27 hPK hPP
      · have hkx : sg_x sg S kq = x := by omega
        refine wp_iconst eX9_layProgram_92 ?_
        refine ist_4 eX9_layProgram_93 ?_
        have hM := chM_0 (k := 42) (f := 27) (M := Mc) (h := fun v => -3 - v)
        rw [← hM]
        refine lp_seg (by rw [hF 34 0 (by omega)]; exact e53) hl (by omega) ln.toNat 0 (by omega) (by omega) ?_
        refine inc_2 eX9_layProgram_137 ?_
        refine wp_goto eX9_layProgram_140 ?_
        refine ih (kq + 1) _ _ (by omega) (Fr.tr hF chM_fr) (fun f hf => by rw [chM_f (by decide) hf]; exact hf33 f hf) (by rw [chM_sz, e27, Int.add_mul, Int.one_mul]; omega) ⟨by omega, fun q a b => ?_, fun hq => ?_⟩ ?_ k
        · by_cases hqk : q = kq
          · subst hqk; omega
          · exact hPK.2.1 q a (by omega)
        · have := sg_x_mono (sg := sg) (S := S) (a := kq) (b := kq + 1) (by omega) (by omega) (by omega)
          omega
        · rw [chM_at (by decide), e27]
          have hq9 := PP_seg hPP hPK.1.1 (by omega) (by omega) (by omega)
          rw [show x + (kq + 1) * ln = x + kq * ln + ln by rw [Int.add_mul, Int.one_mul]; omega]
          exact hq9
theorem lp_data {G : bc_G} {post : bc_R → bc_M → Prop} {N S sg ln : Int} {D : Int → Int} {M0 : bc_M} (hg : 0 ≤ sg ∧ sg ≤ 8) (hl : 1 ≤ ln ∧ ln ≤ 4) (hS : 1 ≤ S ∧ S ≤ 336) (e52 : M0 34 0 52 = sg) (e53 : M0 34 0 53 = ln) (e25 : M0 33 0 25 = S) (e41 : M0 41 0 = D) : ∀ (n : Nat) (x kq : Int) (Mc : bc_M) (y : Option Value) (h1 : x + n = S) (h2 : 0 ≤ x) (hF : Fr (fun k' j' => (k' = 33 ∨ k' = 42) ∧ j' = 0) M0 Mc) (hf33 : ∀ f, f ≠ 27 → Mc 33 0 f = M0 33 0 f) (e27 : Mc 33 0 27 = x + kq * ln) (hPK : PK sg S kq x) (hPP : PP D (Mc 42 0) sg S ln (x + kq * ln) kq x) (k : ∀ M' : bc_M, Fr (fun k' j' => (k' = 33 ∨ k' = 42) ∧ j' = 0) M0 M' → (∀ f, f ≠ 27 → M' 33 0 f = M0 33 0 f) → M' 33 0 27 = S + sg * ln → PP D (M' 42 0) sg S ln (S + sg * ln) sg S → post (.inr none) M'), bc_W G RX9 cX9_layProgram 5 none 9 0 0 55 [some (vR G 33 0), some (vI N), some (vI kq), some (vI x), y] [] Mc post := by
  intro n
  induction n with
  | zero =>
    intro x kq Mc y h1 h2 hF hf33 e27 hPK hPP k
    refine wp_iload_n eX9_layProgram_55 rfl ?_
    refine wp_aload_n eX9_layProgram_56 rfl ?_
    refine gf_X9_218 eX9_layProgram_57 ?_
    rw [hf33 25 (by decide), e25]
    refine wp_icmp_ge eX9_layProgram_60 (fun c60 => ?_) (fun c60 => ?_)
    · have hx : x = S := by omega
      subst hx
      have hks : kq = sg := by
        apply Decidable.byContradiction
        intro hne
        have h8 := hPK.2.2 (by have := hPK.1; omega)
        have h9 : ¬ sg_x sg x kq ≤ x - 1 := by omega
        rw [sg_x_le (by have := hPK.1; omega)] at h9
        have h10 : kq * x < sg * x := Int.mul_lt_mul_of_pos_right (by have := hPK.1; omega) (by omega)
        rw [show x - 1 + 1 = x by omega, Int.mul_comm x sg] at h9
        omega
      subst hks
      refine wp_return eX9_layProgram_174 ?_
      exact k _ hF hf33 e27 hPP
    · omega
  | succ n ih =>
    intro x kq Mc y h1 h2 hF hf33 e27 hPK hPP k
    refine wp_iload_n eX9_layProgram_55 rfl ?_
    refine wp_aload_n eX9_layProgram_56 rfl ?_
    refine gf_X9_218 eX9_layProgram_57 ?_
    rw [hf33 25 (by decide), e25]
    refine wp_icmp_ge eX9_layProgram_60 (fun c60 => ?_) (fun c60 => ?_)
    · omega
    · refine lp_while hg hl hS ⟨h2, by omega⟩ e52 e53 e25 (D := D) (sg - kq).toNat kq Mc y (by have := hPK.1; omega) hF hf33 e27 hPK hPP (fun kr M' y2 gF g33 gk g27 gPK gPP => ?_)
      have f41 : M' 41 0 = D := by rw [gF 41 0 (by omega)]; exact e41
      have hkl := bm_nn (a := kr) (b := ln) (A := 8) (B := 4) (by have := gPK.1; omega) (by omega)
      refine wp_aload_n eX9_layProgram_143 rfl ?_
      refine gf_X9_38 eX9_layProgram_144 ?_
      refine wp_aload_n eX9_layProgram_147 rfl ?_
      refine gf_X9_231 eX9_layProgram_148 ?_
      rw [g27]
      refine wp_aload_n eX9_layProgram_151 rfl ?_
      refine gf_X9_35 eX9_layProgram_152 ?_
      refine wp_iload_n eX9_layProgram_155 rfl ?_
      refine al_41 eX9_layProgram_156 ?_
      rw [f41]
      refine as_42 eX9_layProgram_157 ?_
      refine wp_aload_n eX9_layProgram_158 rfl ?_
      refine wp_dup eX9_layProgram_159 ?_
      refine gf_X9_231 eX9_layProgram_160 ?_
      rw [up_kne (by decide), g27]
      refine wp_iconst eX9_layProgram_163 ?_
      refine wp_iadd eX9_layProgram_164 ?_
      refine pf_X9_231 eX9_layProgram_165 ?_
      refine inc_3 eX9_layProgram_168 ?_
      refine wp_goto eX9_layProgram_171 ?_
      refine ih (x + 1) kr _ _ (by omega) (by omega) (Fr.tr (Fr.tr gF (Fr.up ⟨Or.inr rfl, rfl⟩)) (Fr.up ⟨Or.inl rfl, rfl⟩)) (fun f hf => by rw [up_v, if_neg hf, up_kne (by decide)]; exact g33 f hf) (by rw [up_v, if_pos rfl]; omega) ⟨gPK.1, fun q a b => by have := gPK.2.1 q a b; omega, fun hq => by have := gPK.2.2 hq; have := gk.resolve_left (by omega); omega⟩ ?_ k
      rw [up_kne (by decide), up_at]
      have ht := tm_eq (ln := ln) hg.1 (by omega) h2 gPK gk (by omega)
      have := PP_data (v := D x) gPP h2 (by omega) ht rfl
      rw [show x + 1 + kr * ln = x + kr * ln + 1 by omega]
      exact this
/-- the model's program of settings -/
def mLP (dk fr : Int → Int) (nd ni sg ln : Int) (M : bc_M) : Prop := M 33 0 25 = sp_S dk fr nd ni ∧ M 33 0 27 = sp_S dk fr nd ni + sg * ln ∧ DI dk fr nd ni (M 41 0) (sp_N dk fr nd ni) 0 ∧ PP (M 41 0) (M 42 0) sg (sp_S dk fr nd ni) ln (sp_S dk fr nd ni + sg * ln) sg (sp_S dk fr nd ni)
theorem ct_layProgram {G : bc_G} {M : bc_M} {post : bc_R → bc_M → Prop} {nd ni sg ln : Int} {dk fr : Int → Int} (hV : SV dk fr nd ni sg ln) (e5 : M 33 0 5 = nd) (e6 : M 33 0 6 = ni) (edk : ∀ i, 0 ≤ i → i < 16 → M 34 0 (16 + i) = dk i) (efr : ∀ d, 0 ≤ d → d < 4 → M 34 0 (48 + d) = fr d) (e52 : M 34 0 52 = sg) (e53 : M 34 0 53 = ln) (k : ∀ M' : bc_M, Fr (fun k' j' => (k' = 33 ∨ k' = 41 ∨ k' = 42) ∧ j' = 0) M M' → (∀ f, f ≠ 25 → f ≠ 27 → M' 33 0 f = M 33 0 f) → M' 33 0 25 = sp_S dk fr nd ni → M' 33 0 27 = sp_S dk fr nd ni + sg * ln → DI dk fr nd ni (M' 41 0) (sp_N dk fr nd ni) 0 → PP (M' 41 0) (M' 42 0) sg (sp_S dk fr nd ni) ln (sp_S dk fr nd ni + sg * ln) sg (sp_S dk fr nd ni) → post (.inr none) M') : bc_Call G yX9_layProgram cX9_layProgram 5 none 9 0 [vR G 33 0] M post := by
  have hvi := hV.2.1
  have hvn := hV.1
  refine bc_enter (L := [some (vR G 33 0), none, none, none, none]) (by decide) rfl rfl ?_
  refine wp_aload_n eX9_layProgram_0 rfl ?_
  refine wp_iconst eX9_layProgram_1 ?_
  refine pf_X9_218 eX9_layProgram_2 ?_
  refine wp_aload_n eX9_layProgram_5 rfl ?_
  refine c_X9_224 eX9_layProgram_6 (ct_rounds (ni := ni) (dk := dk) (nd := nd) (fr := fr) (by omega) (by rw [up_v, if_neg (by decide)]; exact e6) (by rw [up_kne (by decide)]; exact edk) (fun i a b => by have := hV.2.2.2.2.2 i a b; omega) hV.1 (by rw [up_v, if_neg (by decide)]; exact e5) (by rw [up_kne (by decide)]; exact efr) hV.2.2.2.2.1 ?_)
  refine ist_1 eX9_layProgram_9 ?_
  refine wp_iconst eX9_layProgram_10 ?_
  refine ist_2 eX9_layProgram_11 ?_
  refine lp_rows (M0 := bc_up M 33 0 25 0) hV (by rw [up_v, if_neg (by decide)]; exact e5) (by rw [up_v, if_neg (by decide)]; exact e6) (by rw [up_kne (by decide)]; exact edk) (by rw [up_kne (by decide)]; exact efr) (sp_N dk fr nd ni).toNat 0 _ none (by have := (sp_N60 hV).1.1; omega) (by omega) Fr.rf (fun f _ => rfl) (by rw [up_v, if_pos rfl, Int.zero_mul]) DI_0 (fun M' g1 g2 g3 g4 y => ?_)
  refine wp_aload_n eX9_layProgram_46 rfl ?_
  refine wp_iconst eX9_layProgram_47 ?_
  refine pf_X9_231 eX9_layProgram_48 ?_
  refine wp_iconst eX9_layProgram_51 ?_
  refine ist_2 eX9_layProgram_52 ?_
  refine wp_iconst eX9_layProgram_53 ?_
  refine ist_3 eX9_layProgram_54 ?_
  have hS := sp_S336 hV
  have hNR := sp_NRL hV
  have hS1 := sp_S_rng hV
  refine lp_data (N := sp_N dk fr nd ni) (S := sp_S dk fr nd ni) (sg := sg) (ln := ln) (D := M' 41 0) (M0 := bc_up M' 33 0 27 0) hV.2.2.1 hV.2.2.2.1 (by omega) ?_ ?_ ?_ ?_ (sp_S dk fr nd ni).toNat 0 0 _ _ (by omega) (by omega) Fr.rf (fun f _ => rfl) ?_ ⟨⟨by omega, hV.2.2.1.1⟩, fun q a b => by omega, fun hq => ?_⟩ ⟨fun y a b => by omega, fun q v a b => by omega, fun t a b => by omega⟩ (fun M2 g5 g6 g7 g8 => ?_)
  · rw [up_kne (by decide), g1 34 0 (by omega), up_kne (by decide)]; exact e52
  · rw [up_kne (by decide), g1 34 0 (by omega), up_kne (by decide)]; exact e53
  · rw [up_v, if_neg (by decide), g3, hNR]
  · rw [up_kne (by decide)]
  · rw [up_v, if_pos rfl, Int.zero_mul]; rfl
  · unfold sg_x; exact Int.ediv_nonneg (Int.mul_nonneg (by omega) (by omega)) (by omega)
  · have f41 : M2 41 0 = M' 41 0 := by rw [g5 41 0 (by omega), up_kne (by decide)]
    refine k M2 (fun k9 j9 h9 => ?_) (fun f h25 h27 => ?_) ?_ g7 (by rw [f41]; exact g4) (by rw [f41]; exact g8)
    · rw [g5 k9 j9 (by omega)]
      have e8 : bc_up M' 33 0 27 0 k9 j9 = M' k9 j9 := by simp only [bc_up]; rw [if_neg (by omega)]
      have e9 : bc_up M 33 0 25 0 k9 j9 = M k9 j9 := by simp only [bc_up]; rw [if_neg (by omega)]
      rw [e8, g1 k9 j9 (by omega), e9]
    · rw [g6 f h27, up_v, if_neg h27, g2 f h25, up_v, if_neg h25]
    · rw [g6 25 (by decide), up_v, if_neg (by decide), g3, hNR]
