section WSX
variable {dk fr : Int → Int} {nd ni sg ln j : Int} {M : bc_M}
/-- items and segments lie apart -/
theorem seg_it (h : SV dk fr nd ni sg ln) (hB : BR M j dk fr nd ni sg ln) (hsg : 0 < sg) {i q k : Int} (hi : 0 ≤ i ∧ i < ni) (hq : 0 ≤ q ∧ q < fr (dk i)) (hk : 0 ≤ k ∧ k < sg) : M 21 (16 * j + i) q < M 18 j k ∨ M 18 j k + ln ≤ M 21 (16 * j + i) q := by
  obtain ⟨b0, b1, b2, b3, b4, b5⟩ := hB
  have hS := sp_S_rng h
  have hx := sp_dx_rng h hi hq
  rw [(b5 i hi.1 hi.2).2 q hq.1 hq.2, b4 k hk.1 hk.2]
  exact tm_seg hsg (by omega) (by have := h.2.2.2.1; omega) hx.1 hk.1
theorem seg_r (h : SV dk fr nd ni sg ln) (hB : BR M j dk fr nd ni sg ln) (hsg : 0 < sg) {k : Int} (hk : 0 ≤ k ∧ k < sg) : 0 ≤ M 18 j k ∧ M 18 j k + ln < sp_S dk fr nd ni + sg * ln := by
  obtain ⟨b0, b1, b2, b3, b4, b5⟩ := hB
  have hS := sp_S_rng h
  have hl := h.2.2.2.1
  rw [b4 k hk.1 hk.2]
  have e1 : 0 ≤ k * sp_S dk fr nd ni / sg := Int.ediv_nonneg (Int.mul_nonneg hk.1 (by omega)) (by omega)
  have e2 : k * sp_S dk fr nd ni / sg < sp_S dk fr nd ni := by
    apply Int.ediv_lt_of_lt_mul hsg
    rw [Int.mul_comm (sp_S dk fr nd ni) sg]
    exact Int.mul_lt_mul_of_pos_right hk.2 (by omega)
  have e3 : 0 ≤ k * ln := Int.mul_nonneg hk.1 (by omega)
  have e4 : (k + 1) * ln ≤ sg * ln := Int.mul_le_mul_of_nonneg_right (by omega) (by omega)
  rw [Int.add_mul, Int.one_mul] at e4
  omega
theorem ws_ix (h : SV dk fr nd ni sg ln) (hB : BR M j dk fr nd ni sg ln) (hsg : 0 < sg) {i : Int} (hi : 0 ≤ i ∧ i < ni) : ssum (fun t => pg_wait M j i t) (sp_S dk fr nd ni + sg * ln).toNat 0 = pg_ws M j i := by
  obtain ⟨hN, hm, hf⟩ := item_t h hB hi
  have hS := sp_S_rng h
  have hl := h.2.2.2.1
  have hsi := fun q k (a : 0 ≤ q ∧ q < fr (dk i)) (b : 0 ≤ k ∧ k < sg) => seg_it h hB hsg hi a b
  have hsr := fun k (b : 0 ≤ k ∧ k < sg) => seg_r h hB hsg b
  obtain ⟨b0, b1, b2, b3, b4, b5⟩ := id hB
  obtain ⟨c1, c2⟩ := b5 i hi.1 hi.2
  have hst : ∀ k k', 0 ≤ k → k < k' → k' < sg → M 18 j k < M 18 j k' := fun k k' a b c => by
    rw [b4 k a (by omega), b4 k' (by omega) c]
    exact sp_st_mono h a b c
  have hs0 : M 18 j 0 = 0 := by rw [b4 0 (by omega) hsg, Int.zero_mul, Int.zero_mul]; simp
  have hO : ∀ t, pg_on M j i t = true ↔ ∃ q, 0 ≤ q ∧ q < fr (dk i) ∧ t = M 21 (16 * j + i) q := fun t => by
    unfold pg_on
    rw [c1, sq_any_s]
    constructor
    · rintro ⟨q, x, y, z⟩; exact ⟨q, x, by omega, z.symm⟩
    · rintro ⟨q, x, y, z⟩; exact ⟨q, x, by omega, z.symm⟩
  have hcy := hsr 0 ⟨by omega, hsg⟩
  rw [hs0] at hcy
  generalize hL : sp_S dk fr nd ni + sg * ln = len at *
  generalize hfe : M 21 (16 * j + i) = f at *
  generalize hNe : fr (dk i) = N at *
  have h0 := fun q (a : 0 ≤ q ∧ q < N) => hsi q 0 a ⟨by omega, hsg⟩
  have hgN : ∀ q, 0 ≤ q → q < N → ln ≤ f q := fun q a b => by
    have := h0 q ⟨a, b⟩
    have := hf q a b
    omega
  have hnl : bef f N ln 0 := ⟨by omega, fun q a b => by omega, fun q a b => hgN q a b⟩
  -- the wait where the item is on the air, and where it isn't
  have hon : ∀ t, 0 ≤ t → t < len → pg_on M j i t = true → pg_wait M j i t = 1 := fun t a b ho => by
    obtain ⟨q, x, y, z⟩ := (hO t).mp ho
    have hb : bef f N t q := ⟨by omega, fun r p1 p2 => by have := hm r q p1 p2 y; omega, fun r p1 p2 => by
      by_cases e : r = q
      · subst e; omega
      · have := hm q r x (by omega) p2; omega⟩
    unfold pg_wait pg_from
    rw [b0, mod_lo a b, if_neg (fun z9 => by rw [ho] at z9; exact absurd z9.2 (by decide)), mod_lo a b]
    unfold pg_nx
    rw [hfe, c1, b0, nx_bef hb, if_pos y]
    omega
  have hoff : ∀ t k p', 0 ≤ t → t < len → bef (M 18 j) sg t k → k < sg → bef f N (M 18 j k) p' → ¬ pg_on M j i t = true → pg_wait M j i t = wi_tgt f N len p' - t + 1 := fun t k p' a b hk hks hp ho => by
    have hk0 := hk.1.1
    have hkr := hsr k ⟨hk0, hks⟩
    have hb : bef f N (M 18 j k + ln) p' := ⟨hp.1, fun r p1 p2 => by have := hp.2.1 r p1 p2; omega, fun r p1 p2 => by
      have x1 := hp.2.2 r p1 p2
      have := hsi r k ⟨by have := hp.1; omega, p2⟩ ⟨hk0, hks⟩
      omega⟩
    have ho' : pg_on M j i t = false := by
      cases hq : pg_on M j i t
      · rfl
      · exact absurd hq ho
    have hsx : pg_sx M j t = M 18 j k := by
      unfold pg_sx
      rw [b2, b0, nx_bef hk, if_pos hks]
    unfold pg_wait pg_from
    rw [b0, mod_lo a b, b2, if_pos ⟨hsg, ho'⟩, hsx, b3, mod_lo (by omega) (by omega)]
    unfold pg_nx
    rw [hfe, c1, b0, nx_bef hb]
    unfold wi_tgt
    omega
  unfold pg_ws
  rw [if_pos (by omega)]
  unfold pg_wsi pg_wix
  rw [hfe, c1, b0, b2]
  refine (wsi_all (V := fun t => pg_wait M j i t) (O := fun t => pg_on M j i t) hm hN.1 hf hO (by omega) hst hs0 (by have := hsr (sg - 1) (by omega); omega) (fun k a b q x y => by have := hsi q k ⟨x, y⟩ ⟨a, b⟩; omega) ?_ (fun t k p' a b c d hp => ?_) (fun t a b => ?_)).symm
  · have hno : ¬ pg_on M j i 0 = true := fun q => by
      obtain ⟨r, x, y, z⟩ := (hO 0).mp q
      have := hgN r x y
      omega
    have hb0 : bef (M 18 j) sg 0 0 := ⟨by omega, fun q a b => by omega, fun q a b => (hsr q ⟨a, b⟩).1⟩
    have := hoff 0 0 0 (by omega) (by omega) hb0 hsg (by rw [hs0]; exact ⟨by omega, fun q a b => by omega, fun q a b => (hf q a b).1⟩) hno
    show pg_wait M j i 0 = f 0 + 1
    rw [this]
    unfold wi_tgt
    rw [if_pos (by omega)]
    omega
  · have hkr := hsr k ⟨by omega, b⟩
    have ht0 := (hsr (k - 1) ⟨by omega, by omega⟩).1
    show pg_wait M j i t = wi_tgt f N len p' - t + 1 - (if pg_on M j i t = true then wi_tgt f N len p' - t else 0)
    by_cases ho : pg_on M j i t = true
    · rw [if_pos ho, hon t (by omega) (by omega) ho]; omega
    · rw [if_neg ho, hoff t k p' (by omega) (by omega) ⟨by omega, fun q x y => by
        by_cases e : q = k - 1
        · subst e; exact c
        · have := hst q (k - 1) x (by omega) (by omega); omega, fun q x y => by
        by_cases e : q = k
        · subst e; exact d
        · have := hst k q (by omega) (by omega) y; omega⟩ b hp ho]
      omega
  · have ht0 := (hsr (sg - 1) ⟨by omega, by omega⟩).1
    show pg_wait M j i t = f 0 + len - t + 1 - (if pg_on M j i t = true then f 0 + len - t else 0)
    by_cases ho : pg_on M j i t = true
    · rw [if_pos ho, hon t (by omega) b ho]; omega
    · rw [if_neg ho]
      have ho' : pg_on M j i t = false := by
        cases hq : pg_on M j i t
        · rfl
        · exact absurd hq ho
      have hbs : bef (M 18 j) sg t sg := ⟨by omega, fun q x y => by
        by_cases e : q = sg - 1
        · subst e; exact a
        · have := hst q (sg - 1) x (by omega) (by omega); omega, fun q x y => by omega⟩
      have hsx : pg_sx M j t = len := by
        unfold pg_sx
        rw [b2, b0, nx_bef hbs, if_neg (by omega), hs0]
        omega
      unfold pg_wait pg_from
      rw [b0, mod_lo (by omega) b, b2, if_pos ⟨hsg, ho'⟩, hsx, b3, show (len + ln) % len = ln by rw [mod_hi (by omega) (by omega)]; omega]
      unfold pg_nx
      rw [hfe, c1, b0, nx_bef hnl, if_pos (by omega)]
      omega
/-- in every case -/
theorem ws_all (h : SV dk fr nd ni sg ln) (hB : BR M j dk fr nd ni sg ln) {i : Int} (hi : 0 ≤ i ∧ i < ni) : ssum (fun t => pg_wait M j i t) (sp_S dk fr nd ni + sg * ln).toNat 0 = pg_ws M j i := by
  have hg := h.2.2.1
  by_cases h0 : sg = 0
  · exact ws_no h hB h0 hi
  · exact ws_ix h hB (by omega) hi
end WSX
