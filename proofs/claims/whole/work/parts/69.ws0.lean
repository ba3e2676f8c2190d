theorem ssum_c {A B : Int → Int} : ∀ (n : Nat) (t : Int), (∀ u, t ≤ u → u < t + n → A u = B u) → ssum A n t = ssum B n t
  | 0, _, _ => rfl
  | n + 1, t, h => by
    simp only [ssum]
    rw [h t (by omega) (by omega), ssum_c n (t + 1) (fun u a b => h u (by omega) (by omega))]
section WS0
variable {dk fr : Int → Int} {nd ni sg ln j : Int} {M : bc_M}
/-- an item's times, in order and in the cycle -/
theorem item_t (h : SV dk fr nd ni sg ln) (hB : BR M j dk fr nd ni sg ln) {i : Int} (hi : 0 ≤ i ∧ i < ni) : (1 ≤ fr (dk i) ∧ fr (dk i) ≤ 6) ∧ (∀ q q', 0 ≤ q → q < q' → q' < fr (dk i) → M 21 (16 * j + i) q < M 21 (16 * j + i) q') ∧ ∀ q, 0 ≤ q → q < fr (dk i) → 0 ≤ M 21 (16 * j + i) q ∧ M 21 (16 * j + i) q < sp_S dk fr nd ni + sg * ln := by
  have hpv := (BR.pv h hB).1
  obtain ⟨b0, b1, b2, b3, b4, b5⟩ := hB
  obtain ⟨c1, c2⟩ := b5 i hi.1 hi.2
  have hd := h.2.2.2.2.2 i hi.1 hi.2
  have ht := (hpv.2.2.2.2.2 i hi.1 hi.2).2
  rw [c1, b0] at ht
  refine ⟨h.2.2.2.2.1 (dk i) hd.1 hd.2, fun q q' a b c => ?_, ht⟩
  rw [c2 q a (by omega), c2 q' (by omega) c]
  exact sp_T_mono h hi b
/-- without index the closed form is the sum over the slots -/
theorem ws_no (h : SV dk fr nd ni sg ln) (hB : BR M j dk fr nd ni sg ln) (h0 : sg = 0) {i : Int} (hi : 0 ≤ i ∧ i < ni) : ssum (fun t => pg_wait M j i t) (sp_S dk fr nd ni + sg * ln).toNat 0 = pg_ws M j i := by
  obtain ⟨hf, hm, hr⟩ := item_t h hB hi
  have hcy := (BR.pv h hB).1.1
  obtain ⟨b0, b1, b2, b3, b4, b5⟩ := hB
  obtain ⟨c1, c2⟩ := b5 i hi.1 hi.2
  rw [b0] at hcy
  have e := ssum_all hf.1 hm hr (by omega)
  unfold pg_ws pg_wsg pg_last
  rw [b2, if_neg (by omega), c1, b0, ← e]
  refine ssum_c _ _ (fun u a b => ?_)
  have hu : u % (sp_S dk fr nd ni + sg * ln) = u := mod_lo a (by omega)
  simp only [pg_wait, pg_from, pg_nx]
  rw [b0, b2, c1, hu, if_neg (by omega), hu]
  omega
end WS0
