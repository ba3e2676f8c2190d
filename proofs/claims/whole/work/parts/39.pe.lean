theorem sq_any_c {f g : Int → Int} {s : Int} : ∀ (n : Nat) (a : Int), (∀ q, a ≤ q → q < a + n → f q = g q) → sq_any f s n a = sq_any g s n a
  | 0, _, _ => rfl
  | n + 1, a, h => by
    simp only [sq_any]
    rw [h a (by omega) (by omega), sq_any_c n (a + 1) (fun q x y => h q (by omega) (by omega))]
theorem sq_nx_c {f g : Int → Int} {s z : Int} : ∀ (n : Nat) (a : Int), (∀ q, a ≤ q → q < a + n → f q = g q) → sq_nx f s z n a = sq_nx g s z n a
  | 0, _, _ => rfl
  | n + 1, a, h => by
    simp only [sq_nx]
    rw [h a (by omega) (by omega), sq_nx_c n (a + 1) (fun q x y => h q (by omega) (by omega))]
theorem sq_gap_c {f g : Int → Int} : ∀ (n : Nat) (a w p : Int), (∀ q, a ≤ q → q < a + n → f q = g q) → sq_gap f n a w p = sq_gap g n a w p
  | 0, _, _, _, _ => rfl
  | n + 1, a, w, p, h => by
    simp only [sq_gap]
    rw [h a (by omega) (by omega), sq_gap_c n (a + 1) _ _ (fun q x y => h q (by omega) (by omega))]
theorem sq_wg_c {f g : Int → Int} : ∀ (n : Nat) (a w p : Int), (∀ q, a ≤ q → q < a + n → f q = g q) → sq_wg f n a w p = sq_wg g n a w p
  | 0, _, _, _, _ => rfl
  | n + 1, a, w, p, h => by
    simp only [sq_wg]
    rw [h a (by omega) (by omega), sq_wg_c n (a + 1) _ _ (fun q x y => h q (by omega) (by omega))]
theorem wi_in_c {f g : Int → Int} {lim : Int} : ∀ (n : Nat) (p t : Int), (∀ q, p ≤ q → q < p + n → f q = g q) → wi_in f lim n p t = wi_in g lim n p t
  | 0, _, _, _ => rfl
  | n + 1, p, t, h => by
    simp only [wi_in]
    rw [h p (by omega) (by omega), wi_in_c n (p + 1) _ (fun q x y => h q (by omega) (by omega))]
theorem wi_out_c {f g st st' : Int → Int} {sl cyc : Int} (hsl : 1 ≤ sl) (hf : ∀ q, 0 ≤ q → q < sl → f q = g q) : ∀ (n : Nat) (k s p v : Int), 0 ≤ p → p ≤ sl → (∀ q, k ≤ q → q < k + n → st q = st' q) → wi_out f st sl cyc n k s p v = wi_out g st' sl cyc n k s p v
  | 0, _, _, _, _, _, _, _ => rfl
  | n + 1, k, s, p, v, h1, h2, h => by
    have i1 := wi_in_rng (f := f) (lim := st k) (sl - p).toNat p 0
    have i2 : wi_in g (st k) (sl - p).toNat p 0 = wi_in f (st k) (sl - p).toNat p 0 := (wi_in_c _ _ _ (fun q x y => hf q (by omega) (by omega))).symm
    have hk := h k (by omega) (by omega)
    simp only [wi_out]
    rw [← hk, i2]
    have ht : ∀ p2, p ≤ p2 → wi_tgt g sl cyc p2 = wi_tgt f sl cyc p2 := fun p2 hp2 => by
      unfold wi_tgt
      rw [hf 0 (by omega) (by omega)]
      split
      · rw [hf p2 (by omega) (by omega)]
      · rfl
    rw [ht _ i1.1]
    exact wi_out_c hsl hf n (k + 1) _ _ _ (by omega) (by omega) (fun q x y => h q (by omega) (by omega))
theorem wi_out_p {f st : Int → Int} {sl cyc : Int} : ∀ (n : Nat) (k s p v : Int), 0 ≤ p → p ≤ sl → p ≤ (wi_out f st sl cyc n k s p v).2 ∧ (wi_out f st sl cyc n k s p v).2 ≤ sl
  | 0, _, _, p, _, h1, h2 => by simp only [wi_out]; omega
  | n + 1, k, s, p, v, h1, h2 => by
    simp only [wi_out]
    have i1 := wi_in_rng (f := f) (lim := st k) (sl - p).toNat p 0
    have := wi_out_p (f := f) (st := st) (sl := sl) (cyc := cyc) n (k + 1) (s + ((st k - v) * (wi_tgt f sl cyc (wi_in f (st k) (sl - p).toNat p 0).1 - st k + 1) + (st k - v) * (st k - v - 1) / 2) - (((wi_in f (st k) (sl - p).toNat p 0).1 - p) * wi_tgt f sl cyc (wi_in f (st k) (sl - p).toNat p 0).1 - (wi_in f (st k) (sl - p).toNat p 0).2)) (wi_in f (st k) (sl - p).toNat p 0).1 (st k) (by omega) (by omega)
    omega
theorem wi_tail_c {f g : Int → Int} {cyc : Int} (h0 : f 0 = g 0) : ∀ (n : Nat) (a s : Int), (∀ q, a ≤ q → q < a + n → f q = g q) → wi_tail f cyc n a s = wi_tail g cyc n a s
  | 0, _, _, _ => rfl
  | n + 1, a, s, h => by
    simp only [wi_tail]
    rw [h a (by omega) (by omega), h0, wi_tail_c h0 n (a + 1) _ (fun q x y => h q (by omega) (by omega))]
/-- the same program, at j of M and at j' of M' -/
def PE (M : bc_M) (j : Int) (M' : bc_M) (j' ni : Int) : Prop := (M 17 j 0 = M' 17 j' 0 ∧ M 17 j 2 = M' 17 j' 2 ∧ M 17 j 3 = M' 17 j' 3) ∧ (∀ k, 0 ≤ k → k < M' 17 j' 2 → M 18 j k = M' 18 j' k) ∧ ∀ i, 0 ≤ i → i < ni → (1 ≤ M' 19 j' i ∧ M 19 j i = M' 19 j' i) ∧ ∀ q, 0 ≤ q → q < M' 19 j' i → M 21 (16 * j + i) q = M' 21 (16 * j' + i) q
section PES
variable {M M' : bc_M} {j j' ni : Int}
theorem PE.on (h : PE M j M' j' ni) {i s : Int} (hi : 0 ≤ i ∧ i < ni) : pg_on M j i s = pg_on M' j' i s := by
  have h1 := h.2.2 i hi.1 hi.2
  unfold pg_on
  rw [h1.1.2]
  exact sq_any_c _ _ (fun q x y => h1.2 q (by omega) (by omega))
theorem PE.nx (h : PE M j M' j' ni) {i s : Int} (hi : 0 ≤ i ∧ i < ni) : pg_nx M j i s = pg_nx M' j' i s := by
  have h1 := h.2.2 i hi.1 hi.2
  unfold pg_nx
  rw [h1.1.2, h.1.1, h1.2 0 (by omega) (by omega)]
  exact sq_nx_c _ _ (fun q x y => h1.2 q (by omega) (by omega))
theorem PE.st (h : PE M j M' j' ni) {s : Int} : pg_st M j s = pg_st M' j' s := by
  unfold pg_st
  rw [h.1.2.1]
  exact sq_any_c _ _ (fun q x y => h.2.1 q (by omega) (by omega))
theorem PE.from (h : PE M j M' j' ni) {i s : Int} (hi : 0 ≤ i ∧ i < ni) : pg_from M j i s = pg_from M' j' i s := by
  unfold pg_from
  rw [h.on hi, h.1.2.1, h.1.2.2]
  split
  · rename_i hq
    unfold pg_sx
    rw [h.1.1, h.1.2.1, h.2.1 0 (by omega) hq.1, sq_nx_c _ _ (fun q x y => h.2.1 q (by omega) (by omega))]
  · rfl
theorem PE.wait (h : PE M j M' j' ni) {i t : Int} (hi : 0 ≤ i ∧ i < ni) : pg_wait M j i t = pg_wait M' j' i t := by
  unfold pg_wait
  rw [h.from hi, h.1.1, h.nx hi]
theorem PE.listen (h : PE M j M' j' ni) {i t : Int} (hi : 0 ≤ i ∧ i < ni) : pg_listen M j i t = pg_listen M' j' i t := by
  unfold pg_listen
  rw [h.wait hi, h.on hi, h.st, h.1.1, h.1.2.1, h.1.2.2]
theorem PE.last (h : PE M j M' j' ni) {i : Int} (hi : 0 ≤ i ∧ i < ni) : pg_last M j i = pg_last M' j' i := by
  have h1 := h.2.2 i hi.1 hi.2
  unfold pg_last
  rw [h1.1.2, h.1.1, h1.2 _ (by omega) (by omega)]
theorem PE.gap (h : PE M j M' j' ni) {i : Int} (hi : 0 ≤ i ∧ i < ni) : pg_gap M j i = pg_gap M' j' i := by
  have h1 := h.2.2 i hi.1 hi.2
  unfold pg_gap
  rw [h.last hi, h1.1.2]
  exact sq_gap_c _ _ _ _ (fun q x y => h1.2 q (by omega) (by omega))
theorem PE.ws (h : PE M j M' j' ni) {i : Int} (hi : 0 ≤ i ∧ i < ni) : pg_ws M j i = pg_ws M' j' i := by
  have h1 := h.2.2 i hi.1 hi.2
  unfold pg_ws
  rw [h.1.2.1]
  split
  · rename_i hq
    have hx : pg_wix M j i = pg_wix M' j' i := by
      unfold pg_wix
      rw [h1.1.2, h.1.1, h.1.2.1, h.2.1 (M' 17 j' 2 - 1) (by omega) (by omega)]
      exact wi_out_c h1.1.1 h1.2 _ _ _ _ _ (by omega) (by omega) (fun q x y => h.2.1 q (by omega) (by omega))
    unfold pg_wsi
    rw [hx, h1.1.2, h.1.1]
    have hp := wi_out_p (f := M' 21 (16 * j' + i)) (st := M' 18 j') (sl := M' 19 j' i) (cyc := M' 17 j' 0) (M' 17 j' 2).toNat 0 0 0 (M' 18 j' (M' 17 j' 2 - 1) - M' 17 j' 0) (by omega) (by omega)
    have e : wi_out (M' 21 (16 * j' + i)) (M' 18 j') (M' 19 j' i) (M' 17 j' 0) (M' 17 j' 2).toNat 0 0 0 (M' 18 j' (M' 17 j' 2 - 1) - M' 17 j' 0) = pg_wix M' j' i := rfl
    rw [e] at hp
    exact wi_tail_c (h1.2 0 (by omega) (by omega)) _ _ _ (fun q x y => h1.2 q (by omega) (by omega))
  · unfold pg_wsg
    rw [h.last hi, h1.1.2]
    exact sq_wg_c _ _ _ _ (fun q x y => h1.2 q (by omega) (by omega))
theorem PE.ls (h : PE M j M' j' ni) {i : Int} (hi : 0 ≤ i ∧ i < ni) : pg_ls M j i = pg_ls M' j' i := by
  unfold pg_ls
  rw [h.ws hi, h.1.1, h.1.2.1, h.1.2.2, (h.2.2 i hi.1 hi.2).1.2]
theorem PE.weigh (h : PE M j M' j' ni) {z z' f : Int} (hz : ∀ i, 0 ≤ i → i < ni → M 8 z i = M' 8 z' i) : ∀ (n : Nat) (i w : Int), 0 ≤ i → i + n ≤ ni → pg_weigh M j z f n i w = pg_weigh M' j' z' f n i w
  | 0, _, _, _, _ => rfl
  | n + 1, i, w, h1, h2 => by
    simp only [pg_weigh]
    rw [h.ws (by omega), h.ls (by omega), hz i h1 (by omega)]
    exact PE.weigh h hz n (i + 1) _ (by omega) (by omega)
theorem PE.viol (h : PE M j M' j' ni) {z z' : Int} (hz : ∀ i, 0 ≤ i → i < ni → M 10 z i = M' 10 z' i) : ∀ (n : Nat) (i s : Int), 0 ≤ i → i + n ≤ ni → pg_viol M j z n i s = pg_viol M' j' z' n i s
  | 0, _, _, _, _ => rfl
  | n + 1, i, s, h1, h2 => by
    simp only [pg_viol]
    rw [h.gap (by omega), hz i h1 (by omega)]
    exact PE.viol h hz n (i + 1) _ (by omega) (by omega)
theorem PE.item (h : PE M j M' j' ni) {s : Int} : ∀ (n : Nat) (i : Int), 0 ≤ i → i + n ≤ ni → pg_item M j s n i = pg_item M' j' s n i
  | 0, _, _, _ => rfl
  | n + 1, i, h1, h2 => by
    simp only [pg_item]
    rw [h.on (by omega), PE.item h n (i + 1) (by omega) (by omega)]
theorem PE.seg (h : PE M j M' j' ni) {s z : Int} : ∀ (n : Nat) (k : Int), 0 ≤ k → k + n ≤ M' 17 j' 2 → pg_seg M j s z n k = pg_seg M' j' s z n k
  | 0, _, _, _ => rfl
  | n + 1, k, h1, h2 => by
    simp only [pg_seg]
    rw [h.2.1 k h1 (by omega), h.1.2.2, PE.seg h n (k + 1) (by omega) (by omega)]
theorem PE.content (h : PE M j M' j' ni) (h0 : 0 ≤ ni) (hg : 0 ≤ M' 17 j' 2) {s : Int} : pg_content M j ni s = pg_content M' j' ni s := by
  unfold pg_content
  rw [h.1.2.1, h.item ni.toNat 0 (by omega) (by omega), h.seg _ 0 (by omega) (by omega)]
end PES
theorem BR.pe {M M' : bc_M} {j j' : Int} {dk fr : Int → Int} {nd ni sg ln : Int} (hv : SV dk fr nd ni sg ln) (h : BR M j dk fr nd ni sg ln) (h' : BR M' j' dk fr nd ni sg ln) : PE M j M' j' ni := by
  obtain ⟨a0, a1, a2, a3, a4, a5⟩ := h
  obtain ⟨b0, b1, b2, b3, b4, b5⟩ := h'
  unfold PE
  rw [a0, b0, a2, b2, a3, b3]
  refine ⟨⟨rfl, rfl, rfl⟩, fun k x y => by rw [a4 k x y, b4 k x y], fun i x y => ?_⟩
  have hd := hv.2.2.2.2.2 i x y
  have hf := hv.2.2.2.2.1 (dk i) hd.1 hd.2
  rw [(a5 i x y).1, (b5 i x y).1]
  exact ⟨⟨hf.1, rfl⟩, fun q u w => by rw [(a5 i x y).2 q u w, (b5 i x y).2 q u w]⟩
/-- the program of settings, as a memory -/
def spM (dk fr : Int → Int) (nd ni sg ln : Int) : bc_M := fun k j f =>
  if k = 17 then (if f = 0 then sp_S dk fr nd ni + sg * ln else if f = 1 then sp_S dk fr nd ni else if f = 2 then sg else ln)
  else if k = 18 then f * sp_S dk fr nd ni / sg + f * ln
  else if k = 19 then fr (dk f)
  else sp_T dk fr nd ni sg ln j f
theorem spM_br {dk fr : Int → Int} {nd ni sg ln : Int} : BR (spM dk fr nd ni sg ln) 0 dk fr nd ni sg ln := by
  refine ⟨rfl, rfl, rfl, rfl, fun k _ _ => rfl, fun i _ _ => ⟨rfl, fun q _ _ => ?_⟩⟩
  rw [show 16 * (0 : Int) + i = i by omega]
  rfl
