/-! a state of the class and a row of the model -/
def rDk (r : Int → Int) : Int → Int := fun i => r (16 + i)
def rFr (r : Int → Int) : Int → Int := fun i => r (48 + i)
def rPop (r : Int → Int) : Int → Int := fun i => r (0 + i)
def rBnd (r : Int → Int) : Int → Int := fun i => r (32 + i)
def rCl (r : Int → Int) (c : Int) : Int → Int := fun q => r (54 + 38 * c + q)
/-- a row in order -/
def RV (r : Int → Int) (nd ni nc : Int) (cap pol : Int → Int) (n : Int) : Prop := SV (rDk r) (rFr r) nd ni (r 52) (r 53) ∧ (∀ i, 0 ≤ i → i < ni → (0 ≤ rPop r i ∧ rPop r i ≤ 99) ∧ 0 ≤ rBnd r i ∧ rBnd r i ≤ 999) ∧ (0 ≤ nc ∧ nc ≤ 4) ∧ ∀ c, 0 ≤ c → c < nc → (0 ≤ cap c ∧ cap c ≤ 4) ∧ (0 ≤ pol c ∧ pol c ≤ 2) ∧ QI (rCl r c) ni n
/-- the state s of the class is the row r -/
def SE (M : bc_M) (s : Int) (r : Int → Int) (nd ni nc : Int) (cap pol : Int → Int) : Prop := (M 6 s 0 = r 52 ∧ M 6 s 1 = r 53 ∧ M 6 s 2 = nd ∧ M 6 s 3 = ni) ∧ (AG (M 7 s) (rFr r) nd ∧ AG (M 8 s) (rPop r) ni ∧ AG (M 9 s) (rDk r) ni ∧ AG (M 10 s) (rBnd r) ni) ∧ (∀ q, 0 ≤ q → q < 16 → 0 ≤ M 9 s q ∧ M 9 s q < 10000) ∧ M 5 s 1 = nc ∧ ∀ c, 0 ≤ c → c < nc → CE M (4 * s + c) (cap c) (pol c) (rCl r c)
section CPL
variable {M : bc_M} {s nd ni nc n : Int} {r cap pol : Int → Int}
theorem SE.sm (h : SE M s r nd ni nc cap pol) (hr : RV r nd ni nc cap pol n) : SM M s := by
  obtain ⟨⟨e0, e1, e2, e3⟩, ⟨a7, a8, a9, a10⟩, _, _, _⟩ := h
  unfold SM
  rw [e0, e1, e2, e3]
  refine ⟨hr.1.c a9.sy a7.sy, fun i a b => ?_⟩
  rw [a8 i a b, a10 i a b]
  exact hr.2.1 i a b
theorem CE.cn {x cp pl : Int} {g : Int → Int} (h : CE M x cp pl g) (hc : 0 ≤ cp ∧ cp ≤ 4) (hp : 0 ≤ pl ∧ pl ≤ 2) (hq : QI g ni n) : CN M x n := by
  obtain ⟨⟨c0, c1⟩, ⟨c2, c3, c4, c5, c6, c7, c8⟩, c9⟩ := h
  obtain ⟨q0, q1, q3, q4, q5, q6, q7, q8⟩ := hq
  unfold CN
  rw [c0, c1, c2, c7, c8]
  refine ⟨hc, hp, q0, q5, by omega, fun i a b => ?_⟩
  have := q6 i a b
  rw [(c9 i a b).1, (c9 i a b).2]
  exact ⟨this.1, by omega, by omega⟩
theorem SE.si (h : SE M s r nd ni nc cap pol) (hr : RV r nd ni nc cap pol n) : SI M s n := by
  refine ⟨h.sm hr, h.2.2.1, by rw [h.2.2.2.1]; exact hr.2.2.1, fun c a b => ?_⟩
  rw [h.2.2.2.1] at b
  have hc := hr.2.2.2 c a b
  exact (h.2.2.2.2 c a b).cn hc.1 hc.2.1 hc.2.2
theorem SE.br {j : Int} (h : SE M s r nd ni nc cap pol) (hr : RV r nd ni nc cap pol n) (hb : BS M j s) : BR M j (rDk r) (rFr r) nd ni (r 52) (r 53) := by
  have hsm := h.sm hr
  obtain ⟨⟨e0, e1, e2, e3⟩, ⟨a7, a8, a9, a10⟩, _, _, _⟩ := h
  unfold BS at hb
  unfold SM at hsm
  rw [e0, e1, e2, e3] at hb hsm
  exact BR.c hsm.1 hb a9 a7
theorem SE.pe {j : Int} (h : SE M s r nd ni nc cap pol) (hr : RV r nd ni nc cap pol n) (hb : BS M j s) : PE M j (spM (rDk r) (rFr r) nd ni (r 52) (r 53)) 0 ni := BR.pe hr.1 (h.br hr hb) spM_br
theorem SE.hy (h : SE M 1 r nd ni nc cap pol) (hr : RV r nd ni nc cap pol n) (hb : BS M 0 1) : HY M 1 0 (rDk r) (rFr r) (rPop r) nd ni (sW (rDk r) (rFr r) nd ni (r 52) (r 53)) (sL (rDk r) (rFr r) nd ni (r 52) (r 53)) := by
  have hpe := h.pe hr hb
  exact ⟨h.sm hr, ⟨h.1.2.2.1, h.1.2.2.2⟩, h.2.1.2.2.1, h.2.1.1, h.2.1.2.1, fun i a b t => ⟨hpe.wait ⟨a, b⟩, hpe.listen ⟨a, b⟩⟩⟩
/-- the answers of the class are those of the model's row -/
theorem an_cycle (h : SE M 1 r nd ni nc cap pol) (hr : RV r nd ni nc cap pol n) (hb : BS M 0 1) : M 17 0 0 = sp_S (rDk r) (rFr r) nd ni + r 52 * r 53 := (h.br hr hb).1
theorem an_occ (h : SE M 1 r nd ni nc cap pol) (hr : RV r nd ni nc cap pol n) (hb : BS M 0 1) {i : Int} (hi : 0 ≤ i ∧ i < ni) : M 19 0 i = rFr r (rDk r i) := ((h.br hr hb).2.2.2.2.2 i hi.1 hi.2).1
theorem an_of (h : SE M 1 r nd ni nc cap pol) (hr : RV r nd ni nc cap pol n) {x : Int} : fc_of (M 9 1) x (M 6 1 3).toNat 0 0 = sp_of (rDk r) ni x := by
  have := hr.1.2.1
  rw [h.1.2.2.2]
  unfold sp_of
  exact fc_of_c h.2.1.2.2.1 _ _ _ (by omega) (by omega)
theorem an_slot {D p : Int → Int} {t : Int} (h : SE M 1 r nd ni nc cap pol) (hr : RV r nd ni nc cap pol n) (hb : BS M 0 1) (hg : DI (rDk r) (rFr r) nd ni D (sp_N (rDk r) (rFr r) nd ni) 0) (hP : PP D p (r 52) (sp_S (rDk r) (rFr r) nd ni) (r 53) (sp_S (rDk r) (rFr r) nd ni + r 52 * r 53) (r 52) (sp_S (rDk r) (rFr r) nd ni)) : pg_content M 0 (M 6 1 3) (t % M 17 0 0) = p (t % (sp_S (rDk r) (rFr r) nd ni + r 52 * r 53)) := by
  have hB := h.br hr hb
  have hpv := (BR.pv hr.1 hB).1.1
  rw [hB.1] at hpv ⊢
  rw [h.1.2.2.2]
  exact content_eq hr.1 hB hg hP ⟨Int.emod_nonneg _ (by omega), Int.emod_lt_of_pos _ hpv.1⟩
theorem an_emp {D p : Int → Int} (h : SE M 1 r nd ni nc cap pol) (hr : RV r nd ni nc cap pol n) (hb : BS M 0 1) (hg : DI (rDk r) (rFr r) nd ni D (sp_N (rDk r) (rFr r) nd ni) 0) (hP : PP D p (r 52) (sp_S (rDk r) (rFr r) nd ni) (r 53) (sp_S (rDk r) (rFr r) nd ni + r 52 * r 53) (r 52) (sp_S (rDk r) (rFr r) nd ni)) : fc_emp (M 19 0) (M 6 1 3).toNat 0 (M 17 0 1) = tmn p (-2) (sp_S (rDk r) (rFr r) nd ni + r 52 * r 53).toNat 0 0 := by
  rw [h.1.2.2.2]
  exact empty_eq hr.1 (h.br hr hb) hg hP
theorem an_gap (h : SE M 1 r nd ni nc cap pol) (hr : RV r nd ni nc cap pol n) (hb : BS M 0 1) {i : Int} (hi : 0 ≤ i ∧ i < ni) : pg_gap M 0 i = pg_gap (spM (rDk r) (rFr r) nd ni (r 52) (r 53)) 0 i := (h.pe hr hb).gap hi
theorem an_viol (h : SE M 1 r nd ni nc cap pol) (hr : RV r nd ni nc cap pol n) (hb : BS M 0 1) : pg_viol M 0 1 (M 6 1 3).toNat 0 0 = sp_V (rDk r) (rFr r) (rBnd r) nd ni (r 52) (r 53) := by
  have h2 := hr.1.2.1
  rw [h.1.2.2.2]
  unfold sp_V
  refine PE.viol (BR.pe hr.1 (h.br hr hb) spX_br) (fun i a b => ?_) _ _ _ (by omega) (by omega)
  unfold spX
  rw [row_at]
  exact h.2.1.2.2.2 i a b
theorem an_next (h : SE M 1 r nd ni nc cap pol) (hr : RV r nd ni nc cap pol n) (hb : BS M 0 1) {i t : Int} (hi : 0 ≤ i ∧ i < ni) : t + pg_nx M 0 i (t % M 17 0 0) - t % M 17 0 0 = t + (pg_nx (spM (rDk r) (rFr r) nd ni (r 52) (r 53)) 0 i (t % (sp_S (rDk r) (rFr r) nd ni + r 52 * r 53)) - t % (sp_S (rDk r) (rFr r) nd ni + r 52 * r 53)) := by
  rw [(h.pe hr hb).nx hi, an_cycle h hr hb]
  omega
theorem an_acc (h : SE M 1 r nd ni nc cap pol) (hr : RV r nd ni nc cap pol n) (hb : BS M 0 1) {i t : Int} (hi : 0 ≤ i ∧ i < ni) : pg_wait M 0 i t = sW (rDk r) (rFr r) nd ni (r 52) (r 53) i t ∧ pg_listen M 0 i t = sL (rDk r) (rFr r) nd ni (r 52) (r 53) i t := ⟨(h.pe hr hb).wait hi, (h.pe hr hb).listen hi⟩
theorem an_weight (h : SE M 1 r nd ni nc cap pol) (hr : RV r nd ni nc cap pol n) (hb : BS M 0 1) {f : Int} : pg_weigh M 0 1 f (M 6 1 3).toNat 0 0 = sp_WS (rDk r) (rFr r) (rPop r) nd ni (r 52) (r 53) f := by
  have h2 := hr.1.2.1
  rw [h.1.2.2.2, ← sp_W_eq hr.1]
  unfold sp_W
  refine PE.weigh (BR.pe hr.1 (h.br hr hb) spX_br) (fun i a b => ?_) _ _ _ (by omega) (by omega)
  unfold spX
  rw [row_kne (by decide), row_at]
  exact h.2.1.2.1 i a b
theorem fc_wa_w {i len : Int} {W : Int → Int} (hW : ∀ t, pg_wait M 0 i t = W t) : ∀ (n : Nat) (t w : Int), fc_wa M i n t w = mo_wa W n t w
  | 0, _, _ => rfl
  | n + 1, t, w => by
    simp only [fc_wa, mo_wa]
    rw [hW t, fc_wa_w (len := len) hW n (t + 1)]
theorem an_worst (h : SE M 1 r nd ni nc cap pol) (hr : RV r nd ni nc cap pol n) (hb : BS M 0 1) {i : Int} (hi : 0 ≤ i ∧ i < ni) : fc_wa M i (M 17 0 0).toNat 0 0 = mo_wa (sW (rDk r) (rFr r) nd ni (r 52) (r 53) i) (sp_S (rDk r) (rFr r) nd ni + r 52 * r 53).toNat 0 0 := by
  rw [an_cycle h hr hb]
  exact fc_wa_w (len := 0) (fun t => (an_acc h hr hb hi).1) _ _ _
theorem an_mean (h : SE M 1 r nd ni nc cap pol) (hr : RV r nd ni nc cap pol n) (hb : BS M 0 1) {i : Int} (hi : 0 ≤ i ∧ i < ni) : pg_ws M 0 i = mo_sm (sW (rDk r) (rFr r) nd ni (r 52) (r 53) i) (sp_S (rDk r) (rFr r) nd ni + r 52 * r 53).toNat 0 0 := by
  rw [← ws_all hr.1 (h.br hr hb) hi]
  have e : ∀ (W : Int → Int) (k : Nat) (t w : Int), mo_sm W k t w = w + ssum W k t := fun W k => by
    induction k with
    | zero => intro t w; simp only [mo_sm, ssum]; omega
    | succ k ih => intro t w; simp only [mo_sm, ssum]; rw [ih]; omega
  rw [e, Int.zero_add]
  exact ssum_c _ _ (fun u _ _ => (an_acc h hr hb hi).1)
theorem fc_lw_c {p g p' g' : Int → Int} (hp : AG p p' ni) (hg : AG g g' ni) : ∀ (n : Nat) (i b : Int), 0 ≤ i → i + n ≤ ni → (0 ≤ b ∧ b < ni) → fc_lw p g n i b = fc_lw p' g' n i b
  | 0, _, _, _, _, _ => rfl
  | n + 1, i, b, h0, h1, hb => by
    simp only [fc_lw]
    rw [hp i h0 (by omega), hp b hb.1 hb.2, hg i h0 (by omega), hg b hb.1 hb.2]
    exact fc_lw_c hp hg n (i + 1) _ (by omega) (by omega) (by split <;> omega)
theorem an_least (h : SE M 1 r nd ni nc cap pol) (hr : RV r nd ni nc cap pol n) (hb : BS M 0 1) : fc_lw (M 8 1) (M 19 0) (M 6 1 3 - 1).toNat 1 0 = fc_lw (rPop r) (fun i => rFr r (rDk r i)) (ni - 1).toNat 1 0 := by
  have h2 := hr.1.2.1
  rw [h.1.2.2.2]
  exact fc_lw_c (ni := ni) h.2.1.2.1 (fun i a b => an_occ h hr hb ⟨a, b⟩) _ _ _ (by omega) (by omega) (by omega)
theorem an_segs (h : SE M 1 r nd ni nc cap pol) (hr : RV r nd ni nc cap pol n) {f : Int} : bsg (fun s => sp_W (M 9 1) (M 7 1) (M 8 1) (M 6 1 2) (M 6 1 3) s (M 6 1 1) f) (fun s => sp_C (M 9 1) (M 7 1) (M 6 1 2) (M 6 1 3) s (M 6 1 1)) 9 0 0 0 1 = bsg (fun s => sp_WS (rDk r) (rFr r) (rPop r) nd ni s (r 53) f) (fun s => sp_S (rDk r) (rFr r) nd ni + s * r 53) 9 0 0 0 1 := by
  rw [h.1.2.1, h.1.2.2.1, h.1.2.2.2]
  refine bsg_c _ _ _ _ _ (fun x a b => ?_)
  have hv : SV (rDk r) (rFr r) nd ni x (r 53) := ⟨hr.1.1, hr.1.2.1, ⟨a, by omega⟩, hr.1.2.2.2⟩
  have hv' := hv.c h.2.1.2.2.1.sy h.2.1.1.sy
  refine ⟨?_, ?_⟩
  · rw [sp_W_c hv' h.2.1.2.2.1 h.2.1.1 h.2.1.2.1, sp_W_eq hv]
  · unfold sp_C
    rw [sp_S_c hv' h.2.1.2.2.1 h.2.1.1]
theorem an_disk (h : SE M 1 r nd ni nc cap pol) (hr : RV r nd ni nc cap pol n) {i : Int} : bdk (fun x => bs_cnt (sp_V (bc_u (M 9 1) i x) (M 7 1) (M 10 1) (M 6 1 2) (M 6 1 3) (M 6 1 0) (M 6 1 1)) 16) (M 6 1 2).toNat 0 0 17 = bdk (fun x => bs_cnt (sp_V (bc_u (rDk r) i x) (rFr r) (rBnd r) nd ni (r 52) (r 53)) 16) nd.toNat 0 0 17 := by
  rw [h.1.1, h.1.2.1, h.1.2.2.1, h.1.2.2.2]
  refine bdk_c _ _ _ _ (fun x a b => ?_)
  have hv' := hr.1.c h.2.1.2.2.1.sy h.2.1.1.sy
  have hv2 : SV (bc_u (M 9 1) i x) (M 7 1) nd ni (r 52) (r 53) := ⟨hv'.1, hv'.2.1, hv'.2.2.1, hv'.2.2.2.1, hv'.2.2.2.2.1, fun q c d => by
    by_cases e : q = i
    · subst e; rw [u_at]; omega
    · rw [u_ne e]; exact hv'.2.2.2.2.2 q c d⟩
  rw [sp_V_c hv2 h.2.1.2.2.1.u h.2.1.1 h.2.1.2.2.2]
theorem an_md (h : SE M 1 r nd ni nc cap pol) (hr : RV r nd ni nc cap pol n) : (mdR M 1).1 = (md (rFr r) (rBnd r) nd ni (r 52) (r 53) 60 0 (rDk r)).1 ∧ AG (mdR M 1).2 (md (rFr r) (rBnd r) nd ni (r 52) (r 53) 60 0 (rDk r)).2 ni ∧ SV (md (rFr r) (rBnd r) nd ni (r 52) (r 53) 60 0 (rDk r)).2 (rFr r) nd ni (r 52) (r 53) := by
  unfold mdR
  rw [h.1.1, h.1.2.1, h.1.2.2.1, h.1.2.2.2]
  have hm := md_c h.2.1.1.sy h.2.1.2.2.2.sy 60 0 (rDk r) (M 9 1) hr.1 h.2.1.2.2.1.sy
  exact ⟨hm.1.symm, hm.2.1.sy, hm.2.2⟩
theorem an_after (h : SE M 1 r nd ni nc cap pol) (hr : RV r nd ni nc cap pol n) : sp_V (mdR M 1).2 (M 7 1) (M 10 1) (M 6 1 2) (M 6 1 3) (M 6 1 0) (M 6 1 1) = sp_V (md (rFr r) (rBnd r) nd ni (r 52) (r 53) 60 0 (rDk r)).2 (rFr r) (rBnd r) nd ni (r 52) (r 53) := by
  have hm := an_md h hr
  rw [h.1.1, h.1.2.1, h.1.2.2.1, h.1.2.2.2]
  exact (sp_V_c hm.2.2 hm.2.1.sy h.2.1.1.sy h.2.1.2.2.2.sy).symm
end CPL
