/-! settings that agree where they count -/
def AG (f g : Int → Int) (n : Int) : Prop := ∀ i, 0 ≤ i → i < n → f i = g i
theorem AG.sy {f g : Int → Int} {n : Int} (h : AG f g n) : AG g f n := fun i a b => (h i a b).symm
theorem AG.rf {f : Int → Int} {n : Int} : AG f f n := fun _ _ _ => rfl
theorem AG.u {f g : Int → Int} {n x v : Int} (h : AG f g n) : AG (bc_u f x v) (bc_u g x v) n := fun i a b => by
  by_cases e : i = x
  · subst e; rw [u_at, u_at]
  · rw [u_ne e, u_ne e]; exact h i a b
theorem sp_cd_c {f g : Int → Int} {ni d : Int} (h : AG f g ni) : ∀ n : Nat, (n : Int) ≤ ni → sp_cd f d n = sp_cd g d n
  | 0, _ => rfl
  | n + 1, hn => by
    simp only [sp_cd]
    rw [sp_cd_c h n (by omega), h n (by omega) (by omega)]
theorem sp_m_c {f g : Int → Int} {ni : Int} (h : AG f g ni) (h0 : 0 ≤ ni) : sp_m f ni = sp_m g ni := by
  funext d
  unfold sp_m
  exact sp_cd_c h _ (by omega)
theorem sp_rd_c {m f g : Int → Int} {nd : Int} (h : AG f g nd) : ∀ (n : Nat) (d r : Int), 0 ≤ d → d + n ≤ nd → sp_rd m f n d r = sp_rd m g n d r
  | 0, _, _, _, _ => rfl
  | n + 1, d, r, h0, h1 => by
    simp only [sp_rd]
    rw [h d h0 (by omega)]
    exact sp_rd_c h n (d + 1) _ (by omega) (by omega)
theorem sp_sum_ag {f g : Int → Int} : ∀ (n : Nat), (∀ i, 0 ≤ i → i < (n : Int) → f i = g i) → sp_sum f n = sp_sum g n
  | 0, _ => rfl
  | n + 1, h => by
    simp only [sp_sum]
    rw [sp_sum_ag n (fun i a b => h i a (by omega)), h n (by omega) (by omega)]
section CONG
variable {dk fr dk' fr' : Int → Int} {nd ni sg ln : Int}
theorem SV.c (h : SV dk fr nd ni sg ln) (hd : AG dk dk' ni) (hf : AG fr fr' nd) : SV dk' fr' nd ni sg ln := ⟨h.1, h.2.1, h.2.2.1, h.2.2.2.1, fun d a b => by rw [← hf d a b]; exact h.2.2.2.2.1 d a b, fun i a b => by rw [← hd i a b]; exact h.2.2.2.2.2 i a b⟩
theorem sp_N_c (h : SV dk fr nd ni sg ln) (hd : AG dk dk' ni) (hf : AG fr fr' nd) : sp_N dk fr nd ni = sp_N dk' fr' nd ni := by
  have h1 := h.1
  have h2 := h.2.1
  unfold sp_N
  rw [sp_m_c hd (by omega)]
  exact sp_rd_c hf _ _ _ (by omega) (by omega)
theorem sp_z_c (h : SV dk fr nd ni sg ln) (hd : AG dk dk' ni) (hf : AG fr fr' nd) {d : Int} (h0 : 0 ≤ d ∧ d < nd) : sp_z dk fr nd ni d = sp_z dk' fr' nd ni d := by
  have h2 := h.2.1
  unfold sp_z
  rw [sp_N_c h hd hf, sp_m_c hd (by omega)]
  unfold sp_sz
  rw [hf d h0.1 h0.2]
theorem sp_o_c (h : SV dk fr nd ni sg ln) (hd : AG dk dk' ni) (hf : AG fr fr' nd) {d : Int} (h0 : 0 ≤ d ∧ d ≤ nd) : sp_o dk fr nd ni d = sp_o dk' fr' nd ni d := by
  unfold sp_o
  exact sp_sum_ag _ (fun i a b => sp_z_c h hd hf ⟨a, by omega⟩)
theorem sp_RL_c (h : SV dk fr nd ni sg ln) (hd : AG dk dk' ni) (hf : AG fr fr' nd) : sp_RL dk fr nd ni = sp_RL dk' fr' nd ni := by
  have h1 := h.1
  unfold sp_RL
  exact sp_sum_ag _ (fun i a b => sp_z_c h hd hf ⟨a, by omega⟩)
theorem sp_S_c (h : SV dk fr nd ni sg ln) (hd : AG dk dk' ni) (hf : AG fr fr' nd) : sp_S dk fr nd ni = sp_S dk' fr' nd ni := by
  unfold sp_S
  rw [sp_N_c h hd hf, sp_RL_c h hd hf]
theorem sp_T_c (h : SV dk fr nd ni sg ln) (hd : AG dk dk' ni) (hf : AG fr fr' nd) {i q : Int} (hi : 0 ≤ i ∧ i < ni) : sp_T dk fr nd ni sg ln i q = sp_T dk' fr' nd ni sg ln i q := by
  have hk := h.2.2.2.2.2 i hi.1 hi.2
  unfold sp_T sp_dx
  rw [sp_S_c h hd hf, ← hd i hi.1 hi.2, sp_z_c h hd hf hk, sp_o_c h hd hf ⟨hk.1, by omega⟩, sp_N_c h hd hf, sp_RL_c h hd hf, hf (dk i) hk.1 hk.2, sp_cd_c hd i.toNat (by omega)]
theorem BR.c {M : bc_M} {j : Int} (h : SV dk fr nd ni sg ln) (hB : BR M j dk fr nd ni sg ln) (hd : AG dk dk' ni) (hf : AG fr fr' nd) : BR M j dk' fr' nd ni sg ln := by
  obtain ⟨b0, b1, b2, b3, b4, b5⟩ := hB
  have hS := sp_S_c h hd hf
  refine ⟨by rw [← hS]; exact b0, by rw [← hS]; exact b1, b2, b3, fun k a b => by rw [← hS]; exact b4 k a b, fun i a b => ?_⟩
  have hk := h.2.2.2.2.2 i a b
  obtain ⟨c1, c2⟩ := b5 i a b
  rw [← hd i a b, ← hf (dk i) hk.1 hk.2]
  exact ⟨c1, fun q x y => by rw [← sp_T_c h hd hf ⟨a, b⟩]; exact c2 q x y⟩
theorem sp_V_c {bnd bnd' : Int → Int} (h : SV dk fr nd ni sg ln) (hd : AG dk dk' ni) (hf : AG fr fr' nd) (hb : AG bnd bnd' ni) : sp_V dk fr bnd nd ni sg ln = sp_V dk' fr' bnd' nd ni sg ln := by
  have h2 := h.2.1
  unfold sp_V
  refine PE.viol (BR.pe (h.c hd hf) (BR.c h spX_br hd hf) spX_br) (fun i a b => ?_) _ _ _ (by omega) (by omega)
  unfold spX
  rw [row_at, row_at]
  exact hb i a b
theorem sp_W_c {pop pop' : Int → Int} {f : Int} (h : SV dk fr nd ni sg ln) (hd : AG dk dk' ni) (hf : AG fr fr' nd) (hb : AG pop pop' ni) : sp_W dk fr pop nd ni sg ln f = sp_W dk' fr' pop' nd ni sg ln f := by
  have h2 := h.2.1
  unfold sp_W
  refine PE.weigh (BR.pe (h.c hd hf) (BR.c h spX_br hd hf) spX_br) (fun i a b => ?_) _ _ _ (by omega) (by omega)
  unfold spX
  rw [row_kne (by decide), row_at, row_kne (by decide), row_at]
  exact hb i a b
theorem sp_C_c (h : SV dk fr nd ni sg ln) (hd : AG dk dk' ni) (hf : AG fr fr' nd) : sp_C dk fr nd ni sg ln = sp_C dk' fr' nd ni sg ln := by
  unfold sp_C
  rw [sp_S_c h hd hf]
theorem sp_fast_c {own : Int} (hf : AG fr fr' nd) : ∀ (n : Nat) (d f s : Int), 0 ≤ d → d + n ≤ nd → sp_fast fr own n d f s = sp_fast fr' own n d f s
  | 0, _, _, _, _, _ => rfl
  | n + 1, d, f, s, h0, h1 => by
    simp only [sp_fast]
    rw [hf d h0 (by omega), sp_fast_c hf n (d + 1) _ _ (by omega) (by omega), sp_fast_c hf n (d + 1) f s (by omega) (by omega)]
theorem sp_fd_c (hn : 0 ≤ nd) (hf : AG fr fr' nd) {d : Int} (hd : 0 ≤ d ∧ d < nd) : sp_fd fr nd d = sp_fd fr' nd d := by
  unfold sp_fd
  rw [hf d hd.1 hd.2]
  exact sp_fast_c hf _ _ _ _ (by omega) (by omega)
theorem ftm_c {s : Int} (h : SV dk fr nd ni sg ln) (hd : AG dk dk' ni) (hf : AG fr fr' nd) : ∀ (n : Nat) (i : Int), 0 ≤ i → i + n ≤ ni → ftm fr dk nd s n i = ftm fr' dk' nd s n i
  | 0, _, _, _ => rfl
  | n + 1, i, h0, h1 => by
    have hk := h.2.2.2.2.2 i h0 (by omega)
    simp only [ftm]
    rw [← hd i h0 (by omega), sp_fd_c (by have := h.1; omega) hf hk, ftm_c h hd hf n (i + 1) (by omega) (by omega)]
end CONG
theorem ftm_r {fr dk : Int → Int} {nd s : Int} : ∀ (n : Nat) (i : Int), 0 ≤ i → ¬ ftm fr dk nd s n i < 0 → (i ≤ ftm fr dk nd s n i ∧ ftm fr dk nd s n i < i + n) ∧ 0 ≤ sp_fd fr nd (dk (ftm fr dk nd s n i))
  | 0, i, h0, h => absurd (by simp only [ftm]; omega) h
  | n + 1, i, h0, h => by
    simp only [ftm] at h ⊢
    by_cases hc : bs s i = true ∧ 0 ≤ sp_fd fr nd (dk i)
    · rw [if_pos hc]; exact ⟨by omega, hc.2⟩
    · rw [if_neg hc] at h ⊢
      have := ftm_r n (i + 1) (by omega) h
      exact ⟨by omega, this.2⟩
theorem sp_fast_r {fr : Int → Int} {own nd : Int} : ∀ (n : Nat) (d f s : Int), 0 ≤ d → d + n ≤ nd → f < nd → sp_fast fr own n d f s < nd
  | 0, _, _, _, _, _, h => h
  | n + 1, d, f, s, h0, h1, h => by
    simp only [sp_fast]
    split
    · exact sp_fast_r n (d + 1) _ _ (by omega) (by omega) (by omega)
    · exact sp_fast_r n (d + 1) _ _ (by omega) (by omega) h
theorem md_c {fr fr' bnd bnd' : Int → Int} {nd ni sg ln : Int} (hf : AG fr fr' nd) (hb : AG bnd bnd' ni) : ∀ (n : Nat) (m : Int) (dk dk' : Int → Int), SV dk fr nd ni sg ln → AG dk dk' ni → (md fr bnd nd ni sg ln n m dk).1 = (md fr' bnd' nd ni sg ln n m dk').1 ∧ AG (md fr bnd nd ni sg ln n m dk).2 (md fr' bnd' nd ni sg ln n m dk').2 ni ∧ SV (md fr bnd nd ni sg ln n m dk).2 fr nd ni sg ln
  | 0, m, dk, dk', h, hd => ⟨rfl, hd, h⟩
  | n + 1, m, dk, dk', h, hd => by
    have h2 := h.2.1
    have h1 := h.1
    have e1 := sp_V_c h hd hf hb
    have e2 := ftm_c (s := sp_V dk' fr' bnd' nd ni sg ln) h hd hf ni.toNat 0 (by omega) (by omega)
    simp only [md]
    rw [e1, e2]
    by_cases hc : ftm fr' dk' nd (sp_V dk' fr' bnd' nd ni sg ln) ni.toNat 0 < 0
    · rw [if_pos hc, if_pos hc]; exact ⟨rfl, hd, h⟩
    · rw [if_neg hc, if_neg hc]
      have hr := ftm_r ni.toNat 0 (by omega) hc
      generalize ftm fr' dk' nd (sp_V dk' fr' bnd' nd ni sg ln) ni.toNat 0 = x at hr hc ⊢
      have hx : 0 ≤ x ∧ x < ni := by omega
      have hk := h.2.2.2.2.2 x hx.1 hx.2
      rw [← hd x hx.1 hx.2] at hr ⊢
      rw [sp_fd_c (by omega) hf hk]
      refine md_c hf hb n (m + 1) _ _ ⟨h.1, h.2.1, h.2.2.1, h.2.2.2.1, h.2.2.2.2.1, fun i a b => ?_⟩ hd.u
      by_cases e : i = x
      · subst e
        rw [u_at]
        refine ⟨hr.2, ?_⟩
        unfold sp_fd
        exact sp_fast_r _ _ _ _ (by omega) (by omega) (by omega)
      · rw [u_ne e]; exact h.2.2.2.2.2 i a b
theorem fc_of_c {f g : Int → Int} {x ni : Int} (h : AG f g ni) : ∀ (n : Nat) (i s : Int), 0 ≤ i → i + n ≤ ni → fc_of f x n i s = fc_of g x n i s
  | 0, _, _, _, _ => rfl
  | n + 1, i, s, h0, h1 => by
    simp only [fc_of]
    rw [h i h0 (by omega), fc_of_c h n (i + 1) _ (by omega) (by omega)]
theorem bsg_c {W C W' C' : Int → Int} : ∀ (n : Nat) (s b lw lc : Int), (∀ x, s ≤ x → x < s + n → W x = W' x ∧ C x = C' x) → bsg W C n s b lw lc = bsg W' C' n s b lw lc
  | 0, _, _, _, _, _ => rfl
  | n + 1, s, b, lw, lc, h => by
    have h0 := h s (by omega) (by omega)
    simp only [bsg]
    rw [h0.1, h0.2, bsg_c n (s + 1) s _ _ (fun x a b => h x (by omega) (by omega)), bsg_c n (s + 1) b lw lc (fun x a b => h x (by omega) (by omega))]
theorem bdk_c {V V' : Int → Int} : ∀ (n : Nat) (s b f : Int), (∀ x, s ≤ x → x < s + n → V x = V' x) → bdk V n s b f = bdk V' n s b f
  | 0, _, _, _, _ => rfl
  | n + 1, s, b, f, h => by
    have h0 := h s (by omega) (by omega)
    simp only [bdk]
    rw [h0, bdk_c n (s + 1) s _ (fun x a b => h x (by omega) (by omega)), bdk_c n (s + 1) b f (fun x a b => h x (by omega) (by omega))]
