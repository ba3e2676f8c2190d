theorem dkL_i {b : Int → Int} {len : Int} : ∀ (n : Nat) (c : Int) (σ : bl_s) (D D' : Int → Int), (dkL b len n c σ D).1 = (dkL b len n c σ D').1 ∧ (dkL b len n c σ D).2.1 = (dkL b len n c σ D').2.1
  | 0, c, σ, D, D' => ⟨rfl, rfl⟩
  | n + 1, c, σ, D, D' => by
    simp only [dkL]
    split
    · split
      · exact ⟨rfl, rfl⟩
      · exact dkL_i n (c + 1) _ _ _
    · exact ⟨rfl, rfl⟩
theorem itL_i {b : Int → Int} {len nd : Int} : ∀ (n : Nat) (c : Int) (σ : bl_s) (D D' : Int → Int), (itL b len nd n c σ D).1 = (itL b len nd n c σ D').1 ∧ (itL b len nd n c σ D).2.1 = (itL b len nd n c σ D').2.1
  | 0, c, σ, D, D' => ⟨rfl, rfl⟩
  | n + 1, c, σ, D, D' => by
    simp only [itL]
    split
    · split
      · exact ⟨rfl, rfl⟩
      · exact itL_i n (c + 1) _ _ _
    · exact ⟨rfl, rfl⟩
theorem clL_i {b : Int → Int} {len : Int} : ∀ (n : Nat) (c : Int) (σ : bl_s) (D D' : Int → Int), (clL b len n c σ D).1 = (clL b len n c σ D').1 ∧ (clL b len n c σ D).2.1 = (clL b len n c σ D').2.1
  | 0, c, σ, D, D' => ⟨rfl, rfl⟩
  | n + 1, c, σ, D, D' => by
    simp only [clL]
    split
    · split
      · exact ⟨rfl, rfl⟩
      · exact clL_i n (c + 1) _ _ _
    · exact ⟨rfl, rfl⟩
theorem dkL_c {b : Int → Int} {len : Int} : ∀ (n : Nat) (c : Int) (σ : bl_s) (D D' : Int → Int), (∀ q, 0 ≤ q → q < 62 → D q = D' q) → (dkL b len n c σ D).1 = (dkL b len n c σ D').1 ∧ (dkL b len n c σ D).2.1 = (dkL b len n c σ D').2.1 ∧ ∀ q, 0 ≤ q → q < 62 → (dkL b len n c σ D).2.2 q = (dkL b len n c σ D').2.2 q
  | 0, c, σ, D, D', h => ⟨rfl, rfl, h⟩
  | n + 1, c, σ, D, D', h => by
    simp only [dkL]
    split
    · split
      · exact ⟨rfl, rfl, h⟩
      · refine dkL_c n (c + 1) _ _ _ (fun q a b9 => ?_)
        simp only [bc_u]
        rw [h q a b9]
    · exact ⟨rfl, rfl, h⟩
theorem itL_c {b : Int → Int} {len nd : Int} : ∀ (n : Nat) (c : Int) (σ : bl_s) (D D' : Int → Int), (∀ q, 0 ≤ q → q < 62 → D q = D' q) → (itL b len nd n c σ D).1 = (itL b len nd n c σ D').1 ∧ (itL b len nd n c σ D).2.1 = (itL b len nd n c σ D').2.1 ∧ ∀ q, 0 ≤ q → q < 62 → (itL b len nd n c σ D).2.2 q = (itL b len nd n c σ D').2.2 q
  | 0, c, σ, D, D', h => ⟨rfl, rfl, h⟩
  | n + 1, c, σ, D, D', h => by
    simp only [itL]
    split
    · split
      · exact ⟨rfl, rfl, h⟩
      · refine itL_c n (c + 1) _ _ _ (fun q a b9 => ?_)
        simp only [bc_u]
        rw [h q a b9]
    · exact ⟨rfl, rfl, h⟩
theorem clL_c {b : Int → Int} {len : Int} : ∀ (n : Nat) (c : Int) (σ : bl_s) (D D' : Int → Int), (∀ q, 0 ≤ q → q < 62 → D q = D' q) → (clL b len n c σ D).1 = (clL b len n c σ D').1 ∧ (clL b len n c σ D).2.1 = (clL b len n c σ D').2.1 ∧ ∀ q, 0 ≤ q → q < 62 → (clL b len n c σ D).2.2 q = (clL b len n c σ D').2.2 q
  | 0, c, σ, D, D', h => ⟨rfl, rfl, h⟩
  | n + 1, c, σ, D, D', h => by
    simp only [clL]
    split
    · split
      · exact ⟨rfl, rfl, h⟩
      · refine clL_c n (c + 1) _ _ _ (fun q a b9 => ?_)
        simp only [bc_u]
        rw [h q a b9]
    · exact ⟨rfl, rfl, h⟩
theorem dkL_n {b : Int → Int} {len : Int} : ∀ (n : Nat) (c : Int) (σ : bl_s) (D : Int → Int), 0 ≤ c → c ≤ 4 → 0 ≤ (dkL b len n c σ D).2.1 ∧ (dkL b len n c σ D).2.1 ≤ 4
  | 0, c, σ, D, h1, h2 => ⟨h1, h2⟩
  | n + 1, c, σ, D, h1, h2 => by
    simp only [dkL]
    split
    · split
      · exact ⟨h1, h2⟩
      · exact dkL_n n (c + 1) _ _ (by omega) (by omega)
    · exact ⟨h1, h2⟩
theorem itL_n {b : Int → Int} {len nd : Int} : ∀ (n : Nat) (c : Int) (σ : bl_s) (D : Int → Int), 0 ≤ c → c ≤ 16 → 0 ≤ (itL b len nd n c σ D).2.1 ∧ (itL b len nd n c σ D).2.1 ≤ 16
  | 0, c, σ, D, h1, h2 => ⟨h1, h2⟩
  | n + 1, c, σ, D, h1, h2 => by
    simp only [itL]
    split
    · split
      · exact ⟨h1, h2⟩
      · exact itL_n n (c + 1) _ _ (by omega) (by omega)
    · exact ⟨h1, h2⟩
theorem clL_n {b : Int → Int} {len : Int} : ∀ (n : Nat) (c : Int) (σ : bl_s) (D : Int → Int), 0 ≤ c → c ≤ 4 → 0 ≤ (clL b len n c σ D).2.1 ∧ (clL b len n c σ D).2.1 ≤ 4
  | 0, c, σ, D, h1, h2 => ⟨h1, h2⟩
  | n + 1, c, σ, D, h1, h2 => by
    simp only [clL]
    split
    · split
      · exact ⟨h1, h2⟩
      · exact clL_n n (c + 1) _ _ (by omega) (by omega)
    · exact ⟨h1, h2⟩
theorem SG.pa {b : Int → Int} {len : Int} {σ : bl_s} (h : SG len σ) : SG len (p_pa b len σ) := by
  unfold p_pa
  split
  · exact (h.f (by decide)).a
  · exact h.a
theorem SG.k {b : Int → Int} {len : Int} {ti : Nat} {σ : bl_s} (h : SG len σ) : SG len (p_k b len ti σ) := by
  unfold p_k
  split
  · exact h.a
  · exact (h.f (by decide)).a
theorem dkL_sg {b : Int → Int} {len : Int} : ∀ (n : Nat) (c : Int) (σ : bl_s) (D : Int → Int), SG len σ → SG len (dkL b len n c σ D).1
  | 0, c, σ, D, h => h
  | n + 1, c, σ, D, h => by
    simp only [dkL]
    split
    · split
      · exact h.f (by decide)
      · exact dkL_sg n (c + 1) _ _ h.a.n.s
    · show SG len (if c = 0 then p_f 1 σ else σ)
      split
      · exact h.f (by decide)
      · exact h
theorem itL_sg {b : Int → Int} {len nd : Int} : ∀ (n : Nat) (c : Int) (σ : bl_s) (D : Int → Int), SG len σ → SG len (itL b len nd n c σ D).1
  | 0, c, σ, D, h => h
  | n + 1, c, σ, D, h => by
    simp only [itL]
    split
    · split
      · exact h.f (by decide)
      · exact itL_sg n (c + 1) _ _ h.a.n.n.n.s
    · show SG len (if c = 0 then p_f 1 σ else σ)
      split
      · exact h.f (by decide)
      · exact h
theorem clL_sg {b : Int → Int} {len : Int} : ∀ (n : Nat) (c : Int) (σ : bl_s) (D : Int → Int), SG len σ → SG len (clL b len n c σ D).1
  | 0, c, σ, D, h => h
  | n + 1, c, σ, D, h => by
    simp only [clL]
    split
    · split
      · exact h.f (by decide)
      · exact clL_sg n (c + 1) _ _ h.a.n.pa.s
    · exact h
/-- the text read: after the index, the disks, the items, the clients; at the end -/
def ld1 (b : Int → Int) (len : Int) : bl_s := p_ix b len (0, lx b len 0)
def ldD (b : Int → Int) (len : Int) (D : Int → Int) : bl_s × Int × (Int → Int) := dkL b len 5 0 (ld1 b len) (ixD b len (0, lx b len 0) D)
def ldI (b : Int → Int) (len : Int) (D : Int → Int) : bl_s × Int × (Int → Int) := itL b len (ldD b len D).2.1 17 0 (ldD b len D).1 (ldD b len D).2.2
def ldC (b : Int → Int) (len : Int) (D : Int → Int) : bl_s × Int × (Int → Int) := clL b len 5 0 (ldI b len D).1 (ldI b len D).2.2
def ldE (b : Int → Int) (len : Int) (D : Int → Int) : bl_s := if (ldC b len D).1.2.2.2.1 = 0 then (ldC b len D).1 else p_f 1 (ldC b len D).1
theorem dkL_0 {b : Int → Int} {len : Int} : ∀ (n : Nat) (c : Int) (σ : bl_s) (D : Int → Int), (dkL b len n c σ D).1.1 = 0 → σ.1 = 0
  | 0, c, σ, D, h => h
  | n + 1, c, σ, D, h => by
    simp only [dkL] at h
    split at h
    · split at h
      · exact absurd h (p_f_ne (by decide))
      · exact p_a_0 (p_n_0 (p_s_0 (dkL_0 n _ _ _ h)))
    · rename_i hw
      have h' : (if c = 0 then p_f 1 σ else σ).1 = 0 := h
      split at h'
      · exact absurd h' (p_f_ne (by decide))
      · exact h'
theorem itL_0 {b : Int → Int} {len nd : Int} : ∀ (n : Nat) (c : Int) (σ : bl_s) (D : Int → Int), (itL b len nd n c σ D).1.1 = 0 → σ.1 = 0
  | 0, c, σ, D, h => h
  | n + 1, c, σ, D, h => by
    simp only [itL] at h
    split at h
    · split at h
      · exact absurd h (p_f_ne (by decide))
      · exact p_a_0 (p_n_0 (p_n_0 (p_n_0 (p_s_0 (itL_0 n _ _ _ h)))))
    · have h' : (if c = 0 then p_f 1 σ else σ).1 = 0 := h
      split at h'
      · exact absurd h' (p_f_ne (by decide))
      · exact h'
theorem clL_0 {b : Int → Int} {len : Int} : ∀ (n : Nat) (c : Int) (σ : bl_s) (D : Int → Int), (clL b len n c σ D).1.1 = 0 → σ.1 = 0
  | 0, c, σ, D, h => h
  | n + 1, c, σ, D, h => by
    simp only [clL] at h
    split at h
    · split at h
      · exact absurd h (p_f_ne (by decide))
      · exact p_a_0 (p_n_0 (p_pa_0 (p_s_0 (clL_0 n _ _ _ h))))
    · exact h
theorem ldE_0 {b : Int → Int} {len : Int} {D : Int → Int} (h : (ldE b len D).1 = 0) : (ldC b len D).1.1 = 0 := by
  unfold ldE at h
  split at h
  · exact h
  · exact absurd h (p_f_ne (by decide))
theorem TK.c {M M' : bc_M} {nd ni nc : Int} {D D' : Int → Int} (h : TK M M' nd ni nc D) (hn : nd ≤ 4 ∧ ni ≤ 16 ∧ nc ≤ 4) (e : ∀ q, 0 ≤ q → q < 62 → D q = D' q) : TK M M' nd ni nc D' := by
  obtain ⟨a1, a2, a3, a4, a5, a6, a7, a8⟩ := h
  refine ⟨a1, a2, a3, ⟨by rw [← e 0 (by decide) (by decide)]; exact a4.1, by rw [← e 1 (by decide) (by decide)]; exact a4.2⟩, fun x p q => ?_, fun i p q => ?_, a7, fun x p q => ?_⟩
  · rw [a5 x p q, e (2 + x) (by omega) (by omega)]
  · rw [(a6 i p q).1, (a6 i p q).2.1, (a6 i p q).2.2, e (6 + 3 * i) (by omega) (by omega), e (6 + 3 * i + 1) (by omega) (by omega), e (6 + 3 * i + 2) (by omega) (by omega)]
    exact ⟨rfl, rfl, rfl⟩
  · rw [(a8 x p q).1, (a8 x p q).2, e (54 + 2 * x) (by omega) (by omega), e (54 + 2 * x + 1) (by omega) (by omega)]
    exact ⟨rfl, rfl⟩
/-- what a reading leaves of the model -/
def LM (M M' : bc_M) : Prop := Fr (fun k' j' => (k' = 33 ∨ k' = 39) ∧ j' = 0) M M' ∧ (∀ f, f < 11 → f ≠ 4 → M' 33 0 f = M 33 0 f) ∧ M' 33 0 4 = 0 ∧ M' 33 0 11 = 0
theorem ME_ME {M : bc_M} {g D g' D' : Int → Int} : ME (ME M g D) g' D' = ME M g' D' := by
  show bc_row (bc_row (ME M g D) 33 0 g') 39 0 D' = ME M g' D'
  rw [ME_g]
  unfold ME
  rw [row_row]
theorem ld_chain {b D D2 D3 D4 D5 : Int → Int} {len nd : Int} (d2 : (ld1 b len).1 = 0 → ∀ q, 0 ≤ q → q < 62 → D2 q = ixD b len (0, lx b len 0) D q) (d3 : (dkL b len 5 0 (ld1 b len) D2).1.1 = 0 → ∀ q, 0 ≤ q → q < 62 → D3 q = (dkL b len 5 0 (ld1 b len) D2).2.2 q) (d4 : (itL b len nd 17 0 (dkL b len 5 0 (ld1 b len) D2).1 D3).1.1 = 0 → ∀ q, 0 ≤ q → q < 62 → D4 q = (itL b len nd 17 0 (dkL b len 5 0 (ld1 b len) D2).1 D3).2.2 q) (d5 : (clL b len 5 0 (itL b len nd 17 0 (dkL b len 5 0 (ld1 b len) D2).1 D3).1 D4).1.1 = 0 → ∀ q, 0 ≤ q → q < 62 → D5 q = (clL b len 5 0 (itL b len nd 17 0 (dkL b len 5 0 (ld1 b len) D2).1 D3).1 D4).2.2 q) (c3 : nd = (dkL b len 5 0 (ld1 b len) D2).2.1) : (dkL b len 5 0 (ld1 b len) D2).2.1 = (ldD b len D).2.1 ∧ (itL b len nd 17 0 (dkL b len 5 0 (ld1 b len) D2).1 D3).2.1 = (ldI b len D).2.1 ∧ ((clL b len 5 0 (itL b len nd 17 0 (dkL b len 5 0 (ld1 b len) D2).1 D3).1 D4).1 = (ldC b len D).1 ∧ (clL b len 5 0 (itL b len nd 17 0 (dkL b len 5 0 (ld1 b len) D2).1 D3).1 D4).2.1 = (ldC b len D).2.1) ∧ ((ldC b len D).1.1 = 0 → ∀ q, 0 ≤ q → q < 62 → D5 q = (ldC b len D).2.2 q) := by
  have i1 := dkL_i (b := b) (len := len) 5 0 (ld1 b len) D2 (ixD b len (0, lx b len 0) D)
  have i2 := itL_i (b := b) (len := len) (nd := nd) 17 0 (dkL b len 5 0 (ld1 b len) D2).1 D3 (ldD b len D).2.2
  have e1 : (dkL b len 5 0 (ld1 b len) D2).1 = (ldD b len D).1 := i1.1
  have e2 : (dkL b len 5 0 (ld1 b len) D2).2.1 = (ldD b len D).2.1 := i1.2
  rw [e1] at i2
  have e3 : nd = (ldD b len D).2.1 := c3.trans e2
  rw [e3] at i2
  have i3 := clL_i (b := b) (len := len) 5 0 (itL b len (ldD b len D).2.1 17 0 (ldD b len D).1 D3).1 D4 (ldI b len D).2.2
  have e4 : (itL b len (ldD b len D).2.1 17 0 (ldD b len D).1 D3).1 = (ldI b len D).1 := i2.1
  rw [e4] at i3
  refine ⟨e2, ?_, ⟨?_, ?_⟩, fun z q a b9 => ?_⟩
  · rw [e1, e3]; exact i2.2
  · rw [e1, e3, e4]; exact i3.1
  · rw [e1, e3, e4]; exact i3.2
  · have z4 : (ldI b len D).1.1 = 0 := clL_0 _ _ _ _ z
    have z3 : (ldD b len D).1.1 = 0 := itL_0 _ _ _ _ z4
    have z2 : (ld1 b len).1 = 0 := dkL_0 _ _ _ _ z3
    have f2 := d2 z2
    have f3 := d3 (by rw [e1]; exact z3)
    have f4 := d4 (by rw [e1, e3, e4]; exact z4)
    have f5 := d5 (by rw [e1, e3, e4]; rw [i3.1]; exact z)
    have g3 : ∀ q, 0 ≤ q → q < 62 → D3 q = (ldD b len D).2.2 q := fun q a b9 => by rw [f3 q a b9]; exact (dkL_c 5 0 (ld1 b len) D2 _ f2).2.2 q a b9
    have g4 : ∀ q, 0 ≤ q → q < 62 → D4 q = (ldI b len D).2.2 q := fun q a b9 => by
      rw [f4 q a b9, e1, e3]
      exact (itL_c 17 0 (ldD b len D).1 D3 _ g3).2.2 q a b9
    rw [f5 q a b9, e1, e3, e4]
    exact (clL_c 5 0 (ldI b len D).1 D4 _ g4).2.2 q a b9
set_option maxHeartbeats 2000000 in
theorem ct_mLoad {G : bc_G} {M : bc_M} {post : bc_R → bc_M → Prop} (hbt : ∀ q, 0 ≤ q → q < M 33 0 11 → 0 ≤ M 38 0 q ∧ M 38 0 q ≤ 255) (hln : 0 ≤ M 33 0 11 ∧ M 33 0 11 ≤ 500) (k1 : (ldE (M 38 0) (M 33 0 11) (M 39 0)).1 ≠ 0 → ∀ M' : bc_M, LM M M' → M' 33 0 18 = (ldE (M 38 0) (M 33 0 11) (M 39 0)).2.1 → post (.inr (some (vI (-10 - (ldE (M 38 0) (M 33 0 11) (M 39 0)).1)))) M') (k2 : (ldE (M 38 0) (M 33 0 11) (M 39 0)).1 = 0 → ∀ M1 M' : bc_M, LM M M1 → M1 33 0 18 = -1 → TK M1 M' (ldD (M 38 0) (M 33 0 11) (M 39 0)).2.1 (ldI (M 38 0) (M 33 0 11) (M 39 0)).2.1 (ldC (M 38 0) (M 33 0 11) (M 39 0)).2.1 (ldC (M 38 0) (M 33 0 11) (M 39 0)).2.2 → post (.inr (some (vI (ldI (M 38 0) (M 33 0 11) (M 39 0)).2.1))) M') : bc_Call G yX9_load cX9_load 1 (some .int) 7 0 [vR G 33 0] M post := by
  refine bc_enter (L := [some (vR G 33 0)]) (by decide) rfl rfl ?_
  refine wp_aload_n eX9_load_0 rfl ?_
  refine wp_iconst eX9_load_1 ?_
  refine pf_X9_65 eX9_load_2 ?_
  refine wp_aload_n eX9_load_5 rfl ?_
  refine wp_aload_n eX9_load_6 rfl ?_
  refine gf_X9_85 eX9_load_7 ?_
  rw [up_v, if_neg (by decide)]
  refine pf_X9_92 eX9_load_10 ?_
  refine wp_aload_n eX9_load_13 rfl ?_
  refine wp_iconst eX9_load_14 ?_
  refine pf_X9_85 eX9_load_15 ?_
  refine wp_aload_n eX9_load_18 rfl ?_
  refine wp_iconst eX9_load_19 ?_
  refine pf_X9_114 eX9_load_20 ?_
  refine wp_aload_n eX9_load_23 rfl ?_
  refine wp_iconst eX9_load_24 ?_
  refine pf_X9_107 eX9_load_25 ?_
  refine wp_aload_n eX9_load_28 rfl ?_
  refine wp_iconst eX9_load_29 ?_
  refine pf_X9_25 eX9_load_30 ?_
  refine wp_aload_n eX9_load_33 rfl ?_
  generalize hM1 : (bc_up (bc_up (bc_up (bc_up (bc_up (bc_up M 33 0 4 0) 33 0 12 (M 33 0 11)) 33 0 11 0) 33 0 13 0) 33 0 17 0) 33 0 18 (-1)) = M1
  have v_ : ∀ f, M1 33 0 f = if f = 18 then -1 else if f = 17 then 0 else if f = 13 then 0 else if f = 11 then 0 else if f = 12 then M 33 0 11 else if f = 4 then 0 else M 33 0 f := fun f => by rw [← hM1, up_v, up_v, up_v, up_v, up_v, up_v]
  have m0 : Fr (fun k' j' => (k' = 33 ∨ k' = 39) ∧ j' = 0) M M1 := by
    rw [← hM1]
    exact Fr.tr (Fr.tr (Fr.tr (Fr.tr (Fr.tr (Fr.up ⟨Or.inl rfl, rfl⟩) (Fr.up ⟨Or.inl rfl, rfl⟩)) (Fr.up ⟨Or.inl rfl, rfl⟩)) (Fr.up ⟨Or.inl rfl, rfl⟩)) (Fr.up ⟨Or.inl rfl, rfl⟩)) (Fr.up ⟨Or.inl rfl, rfl⟩)
  have m38 : M1 38 0 = M 38 0 := m0 38 0 (by omega)
  have m39 : M1 39 0 = M 39 0 := by rw [← hM1, up_kne (by decide), up_kne (by decide), up_kne (by decide), up_kne (by decide), up_kne (by decide), up_kne (by decide)]
  have hb : BT M1 (M 38 0) (M 33 0 11) := ⟨fun q a b => ⟨by rw [m38], hbt q a b⟩, hln⟩
  have s1 : SG (M 33 0 11) (0, lx (M 38 0) (M 33 0 11) 0) := by
    have := lxS_r (b := M 38 0) (len := M 33 0 11) (p := 0) hln.1
    exact lx_at_r (by omega)
  refine c_X9_146 eX9_load_34 (ct_nextF hb (by rw [v_ 12]; rfl) (by rw [v_ 17]; rfl) (by rw [v_ 18]; rfl) (by rw [v_ 13]; rfl) ⟨by omega, hln.1⟩ (fun g1 n1 p1 => ?_))
  rw [show bc_row M1 33 0 g1 = ME M1 g1 (M1 39 0) by
    unfold ME
    have h9 := @row_self (bc_row M1 33 0 g1) 39 0
    rw [row_kne (by decide)] at h9
    exact h9.symm]
  refine wp_aload_n eX9_load_37 rfl ?_
  refine c_X9_183 eX9_load_38 (ct_readIndex (ME_bt hb) (by rw [ME_33]; exact p1) s1 (fun g2 D2 n2 p2 d2 => ?_))
  rw [ME_33] at n2
  rw [ME_39, m39] at d2
  rw [show ME (ME M1 g1 (M1 39 0)) g2 D2 = ME M1 g2 D2 from ME_ME]
  have s2 : SG (M 33 0 11) (ld1 (M 38 0) (M 33 0 11)) := s1.k.n.n.s
  refine wp_aload_n eX9_load_41 rfl ?_
  refine c_X9_186 eX9_load_42 (ct_readDisks (ME_bt hb) (by rw [ME_33]; exact p2) s2 (fun g3 D3 n3 p3 c3 d3 => ?_))
  simp only [ME_33] at n3
  rw [ME_39] at p3 c3 d3
  rw [ME_ME]
  have s3 := dkL_sg (b := M 38 0) 5 0 (ld1 (M 38 0) (M 33 0 11)) D2 s2
  have x3 := dkL_n (b := M 38 0) (len := M 33 0 11) 5 0 (ld1 (M 38 0) (M 33 0 11)) D2 (by omega) (by omega)
  refine wp_aload_n eX9_load_45 rfl ?_
  refine c_X9_189 eX9_load_46 (ct_readItems (nd := g3 20) (ME_bt hb) (by rw [ME_33]; exact p3) s3 (by rw [c3]; exact x3) (by rw [ME_33]) (fun g4 D4 n4 p4 c4 d4 => ?_))
  simp only [ME_33] at n4
  rw [ME_39] at p4 c4 d4
  rw [ME_ME]
  have s4 := itL_sg (b := M 38 0) (nd := g3 20) 17 0 (dkL (M 38 0) (M 33 0 11) 5 0 (ld1 (M 38 0) (M 33 0 11)) D2).1 D3 s3
  have x4 := itL_n (b := M 38 0) (len := M 33 0 11) (nd := g3 20) 17 0 (dkL (M 38 0) (M 33 0 11) 5 0 (ld1 (M 38 0) (M 33 0 11)) D2).1 D3 (by omega) (by omega)
  refine wp_aload_n eX9_load_49 rfl ?_
  refine c_X9_192 eX9_load_50 (ct_readClients (ME_bt hb) (by rw [ME_33]; exact p4) s4 (fun g5 D5 n5 p5 c5 d5 => ?_))
  simp only [ME_33] at n5
  rw [ME_39] at p5 c5 d5
  rw [ME_ME]
  have s5 := clL_sg (b := M 38 0) 5 0 (itL (M 38 0) (M 33 0 11) (g3 20) 17 0 (dkL (M 38 0) (M 33 0 11) 5 0 (ld1 (M 38 0) (M 33 0 11)) D2).1 D3).1 D4 s4
  have x5 := clL_n (b := M 38 0) (len := M 33 0 11) 5 0 (itL (M 38 0) (M 33 0 11) (g3 20) 17 0 (dkL (M 38 0) (M 33 0 11) 5 0 (ld1 (M 38 0) (M 33 0 11)) D2).1 D3).1 D4 (by omega) (by omega)
  have hA := ld_chain (b := M 38 0) (len := M 33 0 11) (D := M 39 0) (nd := g3 20) (D2 := D2) (D3 := D3) (D4 := D4) (D5 := D5) d2 d3 d4 d5 c3
  obtain ⟨q3, q4, q5, qD⟩ := hA
  rw [q5.1] at p5 s5
  rw [q5.2] at c5 x5
  rw [q4] at c4 x4
  rw [q3] at c3 x3
  have hk5 := mkd_r s5.2.2.1
  have hF5 : ∀ f, f < 11 → f ≠ 4 → g5 f = M 33 0 f := fun f a b9 => by rw [n5 f (Or.inl (by omega)) (by omega), n4 f (Or.inl (by omega)) (by omega), n3 f (Or.inl (by omega)) (by omega), n2 f (Or.inl (by omega)), n1 f (Or.inl (by omega)), v_ f, if_neg (by omega), if_neg (by omega), if_neg (by omega), if_neg (by omega), if_neg (by omega), if_neg b9]
  have hF4 : g5 4 = 0 := by rw [n5 4 (Or.inl (by omega)) (by omega), n4 4 (Or.inl (by omega)) (by omega), n3 4 (Or.inl (by omega)) (by omega), n2 4 (Or.inl (by omega)), n1 4 (Or.inl (by omega)), v_ 4]; rfl
  have hF11 : g5 11 = 0 := by rw [n5 11 (Or.inl (by omega)) (by omega), n4 11 (Or.inl (by omega)) (by omega), n3 11 (Or.inl (by omega)) (by omega), n2 11 (Or.inl (by omega)), n1 11 (Or.inl (by omega)), v_ 11]; rfl
  have c5a : g5 20 = (ldD (M 38 0) (M 33 0 11) (M 39 0)).2.1 := by rw [n5 20 (by decide) (by decide), n4 20 (by decide) (by decide)]; exact c3
  have c5b : g5 21 = (ldI (M 38 0) (M 33 0 11) (M 39 0)).2.1 := by rw [n5 21 (by decide) (by decide)]; exact c4
  refine wp_aload_n eX9_load_53 rfl ?_
  refine gf_X9_120 eX9_load_54 ?_
  rw [ME_33, p5.2.2.2.2.1]
  refine wp_if_eq eX9_load_57 (fun c57 => ?_) (fun c57 => ?_)
  · have hE : ldE (M 38 0) (M 33 0 11) (M 39 0) = (ldC (M 38 0) (M 33 0 11) (M 39 0)).1 := by unfold ldE; rw [if_pos (by omega)]
    have n6 : NF g5 g5 := NF.rf
    have p6 := p5
    have s6 := s5
    refine wp_aload_n eX9_load_65 rfl ?_
    refine c_X9_110 eX9_load_66 (ct_isFine (by rw [ME_33, p6.2.1]; exact s6.1) ?_)
    refine wp_if_ne eX9_load_69 (fun c69 => ?_) (fun c69 => ?_) (by split <;> omega)
    · have hE0 : (ldE (M 38 0) (M 33 0 11) (M 39 0)).1 = 0 := by
        rw [hE]
        apply Decidable.byContradiction
        intro h9
        rw [ME_33, p6.2.1, if_neg h9] at c69
        exact absurd rfl c69
      refine wp_aload_n eX9_load_80 rfl ?_
      refine c_X9_195 eX9_load_81 (ct_takeOver (nd := (ldD (M 38 0) (M 33 0 11) (M 39 0)).2.1) (ni := (ldI (M 38 0) (M 33 0 11) (M 39 0)).2.1) (nc := (ldC (M 38 0) (M 33 0 11) (M 39 0)).2.1) (D := D5) (by rw [ME_33, n6 20 (by decide)]; exact c5a) (by rw [ME_33, n6 21 (by decide)]; exact c5b) (by rw [ME_33, n6 22 (by decide)]; exact c5) ME_39 x3 x4 x5 (fun M7 hK => ?_))
      have hK2 := hK.c ⟨x3.2, x4.2, x5.2⟩ (qD (ldE_0 hE0))
      refine wp_aload_n eX9_load_84 rfl ?_
      refine gf_X9_79 eX9_load_85 ?_
      rw [hK2.2.2.1.2.2.2.1]
      refine wp_ireturn eX9_load_88 ?_
      refine k2 hE0 (ME M1 g5 D5) M7 ⟨Fr.tr m0 (by unfold ME; exact Fr.tr (row_fr.mono (fun k9 j9 q => by unfold at1 at q; exact ⟨by omega, q.2⟩)) (row_fr.mono (fun k9 j9 q => by unfold at1 at q; exact ⟨by omega, q.2⟩))), fun f a b9 => by rw [ME_33, n6 f (Or.inl (by omega))]; exact hF5 f a b9, by rw [ME_33, n6 4 (by decide)]; exact hF4, by rw [ME_33, n6 11 (by decide)]; exact hF11⟩ ?_ hK2
      rw [ME_33, p6.2.2.2.2.2.2, if_pos (by rw [← hE]; exact hE0)]
    · have hE0 : (ldE (M 38 0) (M 33 0 11) (M 39 0)).1 ≠ 0 := by
        intro h9
        rw [hE] at h9
        rw [ME_33, p6.2.1, if_pos h9] at c69
        exact c69 (by decide)
      have hp18 := p6.2.2.2.2.2.2
      rw [if_neg (by rw [← hE]; exact hE0), ← hE] at hp18
      rw [← hE] at p6
      refine wp_bipush eX9_load_72 ?_
      refine wp_aload_n eX9_load_74 rfl ?_
      refine gf_X9_107 eX9_load_75 ?_
      rw [ME_33, p6.2.1]
      refine wp_isub eX9_load_78 ?_
      refine wp_ireturn eX9_load_79 ?_
      exact k1 hE0 _ ⟨Fr.tr m0 (by unfold ME; exact Fr.tr (row_fr.mono (fun k9 j9 q => by unfold at1 at q; exact ⟨by omega, q.2⟩)) (row_fr.mono (fun k9 j9 q => by unfold at1 at q; exact ⟨by omega, q.2⟩))), fun f a b9 => by rw [ME_33, n6 f (Or.inl (by omega))]; exact hF5 f a b9, by rw [ME_33, n6 4 (by decide)]; exact hF4, by rw [ME_33, n6 11 (by decide)]; exact hF11⟩ (by rw [ME_33]; exact hp18)
  · have hE : ldE (M 38 0) (M 33 0 11) (M 39 0) = (p_f 1 (ldC (M 38 0) (M 33 0 11) (M 39 0)).1) := by unfold ldE; rw [if_neg (by omega)]
    refine wp_aload_n eX9_load_60 rfl ?_
    refine wp_iconst eX9_load_61 ?_
    refine c_X9_143 eX9_load_62 (ct_fail (c := 1) (by decide) (by rw [ME_33]; exact p5) s5 (fun g6 n6 p6 => ?_))
    rw [ME_33] at n6
    rw [ME_g]
    have s6 := s5.f (c := 1) (by decide)
    refine wp_aload_n eX9_load_65 rfl ?_
    refine c_X9_110 eX9_load_66 (ct_isFine (by rw [ME_33, p6.2.1]; exact s6.1) ?_)
    refine wp_if_ne eX9_load_69 (fun c69 => ?_) (fun c69 => ?_) (by split <;> omega)
    · have hE0 : (ldE (M 38 0) (M 33 0 11) (M 39 0)).1 = 0 := by
        rw [hE]
        apply Decidable.byContradiction
        intro h9
        rw [ME_33, p6.2.1, if_neg h9] at c69
        exact absurd rfl c69
      refine wp_aload_n eX9_load_80 rfl ?_
      refine c_X9_195 eX9_load_81 (ct_takeOver (nd := (ldD (M 38 0) (M 33 0 11) (M 39 0)).2.1) (ni := (ldI (M 38 0) (M 33 0 11) (M 39 0)).2.1) (nc := (ldC (M 38 0) (M 33 0 11) (M 39 0)).2.1) (D := D5) (by rw [ME_33, n6 20 (by decide)]; exact c5a) (by rw [ME_33, n6 21 (by decide)]; exact c5b) (by rw [ME_33, n6 22 (by decide)]; exact c5) ME_39 x3 x4 x5 (fun M7 hK => ?_))
      have hK2 := hK.c ⟨x3.2, x4.2, x5.2⟩ (qD (ldE_0 hE0))
      refine wp_aload_n eX9_load_84 rfl ?_
      refine gf_X9_79 eX9_load_85 ?_
      rw [hK2.2.2.1.2.2.2.1]
      refine wp_ireturn eX9_load_88 ?_
      refine k2 hE0 (ME M1 g6 D5) M7 ⟨Fr.tr m0 (by unfold ME; exact Fr.tr (row_fr.mono (fun k9 j9 q => by unfold at1 at q; exact ⟨by omega, q.2⟩)) (row_fr.mono (fun k9 j9 q => by unfold at1 at q; exact ⟨by omega, q.2⟩))), fun f a b9 => by rw [ME_33, n6 f (Or.inl (by omega))]; exact hF5 f a b9, by rw [ME_33, n6 4 (by decide)]; exact hF4, by rw [ME_33, n6 11 (by decide)]; exact hF11⟩ ?_ hK2
      rw [ME_33, p6.2.2.2.2.2.2, if_pos (by rw [← hE]; exact hE0)]
    · have hE0 : (ldE (M 38 0) (M 33 0 11) (M 39 0)).1 ≠ 0 := by
        intro h9
        rw [hE] at h9
        rw [ME_33, p6.2.1, if_pos h9] at c69
        exact c69 (by decide)
      have hp18 := p6.2.2.2.2.2.2
      rw [if_neg (by rw [← hE]; exact hE0), ← hE] at hp18
      rw [← hE] at p6
      refine wp_bipush eX9_load_72 ?_
      refine wp_aload_n eX9_load_74 rfl ?_
      refine gf_X9_107 eX9_load_75 ?_
      rw [ME_33, p6.2.1]
      refine wp_isub eX9_load_78 ?_
      refine wp_ireturn eX9_load_79 ?_
      exact k1 hE0 _ ⟨Fr.tr m0 (by unfold ME; exact Fr.tr (row_fr.mono (fun k9 j9 q => by unfold at1 at q; exact ⟨by omega, q.2⟩)) (row_fr.mono (fun k9 j9 q => by unfold at1 at q; exact ⟨by omega, q.2⟩))), fun f a b9 => by rw [ME_33, n6 f (Or.inl (by omega))]; exact hF5 f a b9, by rw [ME_33, n6 4 (by decide)]; exact hF4, by rw [ME_33, n6 11 (by decide)]; exact hF11⟩ (by rw [ME_33]; exact hp18)
