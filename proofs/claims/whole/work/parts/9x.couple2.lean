theorem sq_nx_ge2 {f : Int → Int} {s z : Int} (hz : s ≤ z) : ∀ (n : Nat) (a : Int), s ≤ sq_nx f s z n a
  | 0, _ => hz
  | n + 1, a => by
    simp only [sq_nx]
    by_cases h : s ≤ f a
    · rw [if_pos h]; exact h
    · rw [if_neg h]; exact sq_nx_ge2 hz n (a + 1)
theorem pg_wait_pos {M : bc_M} {j ni i t : Int} (h : PV M j ni) (hi : 0 ≤ i ∧ i < ni) : 1 ≤ pg_wait M j i t := by
  obtain ⟨h1, h2, h3, h4, h5, h6⟩ := h
  have h7 := h6 i hi.1 hi.2
  have hf0 := h7.2 0 (by omega) (by omega)
  have hs0 := Int.emod_nonneg t (show M 17 j 0 ≠ 0 by omega)
  have hs1 := Int.emod_lt_of_pos t h1.1
  have hfr : t % M 17 j 0 ≤ pg_from M j i (t % M 17 j 0) := by
    unfold pg_from
    by_cases hc : 0 < M 17 j 2 ∧ pg_on M j i (t % M 17 j 0) = false
    · rw [if_pos hc]
      have hst := h4 0 (by omega) hc.1
      have : t % M 17 j 0 ≤ pg_sx M j (t % M 17 j 0) := sq_nx_ge2 (by omega) _ _
      omega
    · rw [if_neg hc]; omega
  have hn : pg_from M j i (t % M 17 j 0) % M 17 j 0 ≤ pg_nx M j i (pg_from M j i (t % M 17 j 0) % M 17 j 0) := by
    have := Int.emod_lt_of_pos (pg_from M j i (t % M 17 j 0)) h1.1
    exact sq_nx_ge2 (by omega) _ _
  unfold pg_wait
  omega
theorem wfW_nn2 {W : Int → Int → Int} {s t ni : Int} (hW : ∀ i, 0 ≤ i → i < ni → 0 ≤ W i t) : ∀ (n : Nat) (i w : Int), 0 ≤ i → i + n ≤ ni → 0 ≤ w → 0 ≤ wfW W s t n i w
  | 0, _, _, _, _, h => h
  | n + 1, i, w, h0, h1, h => by
    simp only [wfW]
    have := hW i h0 (by omega)
    exact wfW_nn2 hW n (i + 1) _ (by omega) (by omega) (by split <;> omega)
theorem mo_near_done2 {V : Int → Int} {s b N : Int} (hb : b ≠ -2) (hV : ∀ i, 0 ≤ i → i < N → 0 ≤ V i) : ∀ (n : Nat) (i : Int), 0 ≤ i → i + n ≤ N → mo_near V s n i b 0 = b
  | 0, _, _, _ => rfl
  | n + 1, i, h0, h1 => by
    have := hV i h0 (by omega)
    simp only [mo_near]
    rw [if_neg (by omega)]
    exact mo_near_done2 hb hV n (i + 1) (by omega) (by omega)
theorem near_low2 {V : Int → Int} {s r N : Int} (hV : ∀ i, 0 ≤ i → i < N → 0 ≤ V i) (h1 : ∀ i, 0 ≤ i → i < N → (bs r i = true ↔ bs s i = true ∧ V i = 0)) : ∀ (n : Nat) (i b l : Int), 0 ≤ i → i + n ≤ N → (b = -2 ∨ 1 ≤ l) → (∃ y, i ≤ y ∧ y < i + n ∧ bs r y = true) → mo_near V s n i b l = fc_low r n i
  | 0, i, b, l, _, _, _, h => by
    obtain ⟨y, a, c, _⟩ := h
    omega
  | n + 1, i, b, l, h0, hn, hl, h => by
    simp only [mo_near, fc_low]
    have e := h1 i h0 (by omega)
    by_cases hr : bs r i = true
    · have e2 := e.mp hr
      rw [if_pos hr, if_pos ⟨e2.1, by omega⟩, e2.2]
      exact mo_near_done2 (by omega) hV n (i + 1) (by omega) (by omega)
    · rw [if_neg hr]
      have hv := hV i h0 (by omega)
      have h' : ∃ y, i + 1 ≤ y ∧ y < i + 1 + n ∧ bs r y = true := by
        obtain ⟨y, a, c, d⟩ := h
        refine ⟨y, ?_, by omega, d⟩
        by_cases q : y = i
        · subst q; exact absurd d hr
        · omega
      by_cases hc : bs s i = true ∧ (b = -2 ∨ V i < l)
      · rw [if_pos hc]
        refine near_low2 hV h1 n (i + 1) i (V i) (by omega) (by omega) (Or.inr ?_) h'
        have : V i ≠ 0 := fun q => hr (e.mpr ⟨hc.1, q⟩)
        omega
      · rw [if_neg hc]
        exact near_low2 hV h1 n (i + 1) b l (by omega) (by omega) hl h'
theorem bs_bx {a b k : Int} (ha : 0 ≤ a ∧ a < 65536) (hb : 0 ≤ b ∧ b < 65536) : bs (bx_and a b) k = (bs a k && bs b k) := by
  have h := bs_and (a := a.toNat) (b := b.toNat) (by omega) (by omega)
  rw [show ((a.toNat : Nat) : Int) = a by omega, show ((b.toNat : Nat) : Int) = b by omega] at h
  rw [h]
  unfold bs
  rw [Int.toNat_natCast, Nat.testBit_and]
section CPL2
variable {M : bc_M} {s nd ni nc n : Int} {r cap pol : Int → Int}
theorem an_wt (h : SE M 1 r nd ni nc cap pol) (hr : RV r nd ni nc cap pol n) (hb : BS M 0 1) : fc_wt M s (M 17 0 0).toNat 0 0 0 = mo_wt (fun t => wfW (sW (rDk r) (rFr r) nd ni (r 52) (r 53)) s t ni.toNat 0 0) (sp_S (rDk r) (rFr r) nd ni + r 52 * r 53 - 1).toNat 1 0 := by
  have h2 := hr.1.2.1
  have hpv := (BR.pv hr.1 (h.br hr hb)).1.1
  rw [an_cycle h hr hb] at hpv ⊢
  refine fc_wt_0 (g := fun t => wfW (sW (rDk r) (rFr r) nd ni (r 52) (r 53)) s t ni.toNat 0 0) (by omega) (fun u a b => ?_) ?_
  · rw [h.1.2.2.2]
    exact fc_wf_w (ni := ni) (fun i x y => (an_acc h hr hb ⟨x, y⟩).1) _ _ _ (by omega) (by omega)
  · exact wfW_nn2 (ni := ni) (fun i x y => (sW_rng hr.1 ⟨x, y⟩).1.1) _ _ _ (by omega) (by omega) (by omega)
theorem an_hint (h : SE M 1 r nd ni nc cap pol) (hr : RV r nd ni nc cap pol n) (hb : BS M 0 1) {c : Int} (hc : 0 ≤ c ∧ c < nc) : fc_near M (M 12 (4 * 1 + c) 7) (M 12 (4 * 1 + c) 2) (M 6 1 3).toNat 0 (-2) 0 = mo_near (lwV (rDk r) (rFr r) nd ni (r 52) (r 53) 0 (rCl r c)) (rCl r c 5) ni.toNat 0 (-2) 0 := by
  have h2 := hr.1.2.1
  have hE := h.2.2.2.2 c hc.1 hc.2
  rw [hE.2.1.1, hE.2.1.2.2.2.2.2.1, h.1.2.2.2]
  refine fc_near_w (ni := ni) (fun i a b _ => ?_) _ _ _ _ (by omega) (by omega)
  unfold lwV
  rw [if_neg (fun q => by have := q.1; omega)]
  exact (an_acc h hr hb ⟨a, b⟩).1
theorem an_soon (h : SE M 1 r nd ni nc cap pol) (hr : RV r nd ni nc cap pol n) (hb : BS M 0 1) {c : Int} (hc : 0 ≤ c ∧ c < nc) (hs : 0 ≤ s ∧ s < p2 ni) : (if bx_and s (M 12 (4 * 1 + c) 7) = 0 then fc_near M s (M 12 (4 * 1 + c) 2) (M 6 1 3).toNat 0 (-2) 0 else fc_low (bx_and s (M 12 (4 * 1 + c) 7)) (M 6 1 3).toNat 0) = mo_near (lwV (rDk r) (rFr r) nd ni (r 52) (r 53) 1 (rCl r c)) s ni.toNat 0 (-2) 0 := by
  have h2 := hr.1.2.1
  have hE := h.2.2.2.2 c hc.1 hc.2
  have hq := (hr.2.2.2 c hc.1 hc.2).2.2
  have hq5 := hq.2.2.2.2.1
  have hs16 : s < 65536 := by
    have : p2 ni ≤ 65536 := by
      unfold p2
      have := Nat.pow_le_pow_right (n := 2) (by decide) (show ni.toNat ≤ 16 by omega)
      omega
    omega
  rw [hE.2.1.1, hE.2.1.2.2.2.2.2.1, h.1.2.2.2]
  have hbx : ∀ k, bs (bx_and s (rCl r c 5)) k = (bs s k && bs (rCl r c 5) k) := fun k => bs_bx ⟨hs.1, hs16⟩ hq5
  have hpv := (BR.pv hr.1 (h.br hr hb)).1
  by_cases h0 : bx_and s (rCl r c 5) = 0
  · rw [if_pos h0]
    refine fc_near_w (ni := ni) (fun i a b hbi => ?_) _ _ _ _ (by omega) (by omega)
    unfold lwV
    have := hbx i
    rw [h0, bs_zero, hbi, Bool.true_and] at this
    rw [if_neg (fun q => by rw [q.2] at this; exact absurd this (by decide))]
    exact (an_acc h hr hb ⟨a, b⟩).1
  · rw [if_neg h0]
    have hV : ∀ i, 0 ≤ i → i < ni → (1 ≤ sW (rDk r) (rFr r) nd ni (r 52) (r 53) i (rCl r c 0)) := fun i a b => by
      rw [← (an_acc h hr hb ⟨a, b⟩).1]
      exact pg_wait_pos hpv ⟨a, b⟩
    refine (near_low2 (N := ni) (fun i a b => ?_) (fun i a b => ?_) _ _ _ _ (by omega) (by omega) (Or.inl rfl) ?_).symm
    · unfold lwV
      have := hV i a b
      split <;> omega
    · rw [hbx i]
      have := hV i a b
      unfold lwV
      cases hb1 : bs s i <;> cases hb2 : bs (rCl r c 5) i <;> simp
      omega
    · apply Classical.byContradiction
      intro hno
      apply h0
      have hrg := bx_and_rng (a := s) (b := rCl r c 5) ⟨hs.1, hs16⟩ hq5
      refine bs_ext (n := 16) ⟨hrg.1, by omega⟩ ⟨by decide, by decide⟩ (fun k a b => ?_)
      rw [bs_zero]
      cases hk : bs (bx_and s (rCl r c 5)) k
      · rfl
      · exfalso
        by_cases hkn : k < ni
        · exact hno ⟨k, a, by omega, hk⟩
        · rw [hbx k, Bool.and_eq_true] at hk
          have := hq.2.2.2.2.2.2.1 k (by omega) b
          rw [this] at hk
          exact absurd hk.2 (by decide)
theorem an_vic (h : SE M 1 r nd ni nc cap pol) (hr : RV r nd ni nc cap pol n) {c i : Int} (hc : 0 ≤ c ∧ c < nc) (hi : 0 ≤ i ∧ i < ni) : (if bs (M 12 (4 * 1 + c) 7) i = true then -2 else cl_rem (ask1 M (4 * 1 + c) i) (4 * 1 + c) 1 i) = qr (cap c) (pol c) ni (rPop r) (rDk r) (rFr r) (rCl r c) i := by
  have h2 := hr.1.2.1
  have hE := h.2.2.2.2 c hc.1 hc.2
  have hq := (hr.2.2.2 c hc.1 hc.2).2.2
  have hn1 := hE.n1 (i := i) ⟨hi.1, by omega⟩
  have e9 : ∀ k, k ≠ 12 → k ≠ 13 → k ≠ 14 → ∀ q, ask1 M (4 * 1 + c) i k q = M k q := fun k a b d q => by
    unfold ask1
    simp only [up_kne a, up_kne b, up_kne d]
  have hsm : SM (ask1 M (4 * 1 + c) i) 1 := by
    have := h.sm hr
    unfold SM at this ⊢
    rw [e9 6 (by decide) (by decide) (by decide), e9 7 (by decide) (by decide) (by decide), e9 8 (by decide) (by decide) (by decide), e9 9 (by decide) (by decide) (by decide), e9 10 (by decide) (by decide) (by decide)]
    exact this
  have hrem := (rem_q hsm (by rw [e9 6 (by decide) (by decide) (by decide)]; exact h.1.2.2.2) hn1.1.1 hn1.1.2 hn1.2.1.2.2.2.2.2.1 hn1.2.2 hq hi).1
  rw [e9 7 (by decide) (by decide) (by decide), e9 8 (by decide) (by decide) (by decide), e9 9 (by decide) (by decide) (by decide)] at hrem
  have hv' := hr.1.c h.2.1.2.2.1.sy h.2.1.1.sy
  rw [hrem, qv_c hv' h.2.1.2.2.1 h.2.1.1 h.2.1.2.1, hE.2.1.2.2.2.2.2.1]
  rfl
end CPL2
