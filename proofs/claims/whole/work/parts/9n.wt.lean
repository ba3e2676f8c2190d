section LS9
variable {dk fr : Int → Int} {nd ni sg ln j : Int} {M : bc_M}
/-- with index the listening sum is the sum over the slots -/
theorem ls_ix2 (h : SV dk fr nd ni sg ln) (hB : BR M j dk fr nd ni sg ln) (hsg : 0 < sg) {i : Int} (hi : 0 ≤ i ∧ i < ni) : ssum (fun t => pg_listen M j i t) (sp_S dk fr nd ni + sg * ln).toNat 0 = pg_ls M j i := by
  obtain ⟨hf, hm, hr⟩ := item_t h hB hi
  have hpv := (BR.pv h hB).1
  have hcy := hpv.1
  have hst := hpv.2.2.2.1
  obtain ⟨b0, b1, b2, b3, b4, b5⟩ := id hB
  obtain ⟨c1, c2⟩ := b5 i hi.1 hi.2
  rw [b0] at hcy
  rw [b0, b2] at hst
  have n1 := ssum_cnt (c := -(ln + 1)) (d := 0) (O := fun u => pg_on M j i u) hm hr (fun t => by
    unfold pg_on
    rw [c1, sq_any_s]
    constructor
    · rintro ⟨q, x, y, z⟩; exact ⟨q, x, by omega, z.symm⟩
    · rintro ⟨q, x, y, z⟩; exact ⟨q, x, by omega, z.symm⟩) (sp_S dk fr nd ni + sg * ln).toNat 0 0 (by omega) (by omega) ⟨by omega, fun q a b => by omega, fun q a b => (hr q a b).1⟩
  have n2 := ssum_cnt (f := M 18 j) (N := sg) (len := sp_S dk fr nd ni + sg * ln) (c := -1) (d := 0) (O := fun u => pg_st M j u) (fun q q' a b c => by
    rw [b4 q a (by omega), b4 q' (by omega) c]
    exact sp_st_mono h a b c) hst (fun t => by
    unfold pg_st
    rw [b2, sq_any_s]
    constructor
    · rintro ⟨q, x, y, z⟩; exact ⟨q, x, by omega, z.symm⟩
    · rintro ⟨q, x, y, z⟩; exact ⟨q, x, by omega, z.symm⟩) (sp_S dk fr nd ni + sg * ln).toNat 0 0 (by omega) (by omega) ⟨by omega, fun q a b => by omega, fun q a b => (hst q a b).1⟩
  have n3 := ssum_k (c := ln + 2) (sp_S dk fr nd ni + sg * ln).toNat 0
  have e : ssum (fun t => pg_listen M j i t) (sp_S dk fr nd ni + sg * ln).toNat 0 = ssum (fun u => (ln + 2) + ((if pg_on M j i u = true then -(ln + 1) else 0) + (if pg_st M j u = true then -1 else 0))) (sp_S dk fr nd ni + sg * ln).toNat 0 := by
    refine ssum_c _ _ (fun u a b => ?_)
    have hu : u % (sp_S dk fr nd ni + sg * ln) = u := mod_lo a (by omega)
    have hs : 0 ≤ u ∧ u < sp_S dk fr nd ni + sg * ln := ⟨a, by omega⟩
    simp only [pg_listen]
    rw [b0, b2, b3, hu, if_neg (by omega)]
    by_cases hon : pg_on M j i u = true
    · have hst2 : ¬ pg_st M j u = true := by
        intro hq
        unfold pg_on at hon
        rw [c1, sq_any_s] at hon
        obtain ⟨q, x, y, z⟩ := hon
        unfold pg_st at hq
        rw [b2, sq_any_s] at hq
        obtain ⟨q', x', y', z'⟩ := hq
        have hl1 := h.2.2.2.1
        have := seg_it h hB hsg hi (q := q) (k := q') ⟨x, by omega⟩ ⟨x', by omega⟩
        omega
      rw [if_pos hon, if_pos hon, if_neg hst2]
      omega
    · rw [if_neg hon, if_neg hon]
      by_cases hst2 : pg_st M j u = true
      · rw [if_pos hst2, if_pos hst2]; omega
      · rw [if_neg hst2, if_neg hst2]; omega
  rw [e, ssum_add (A := fun _ => ln + 2) (B := fun u => (if pg_on M j i u = true then -(ln + 1) else 0) + (if pg_st M j u = true then -1 else 0)), ssum_add (A := fun u => if pg_on M j i u = true then -(ln + 1) else 0) (B := fun u => if pg_st M j u = true then -1 else 0), n1, n2, n3]
  unfold pg_ls
  rw [b0, b2, b3, c1, if_neg (by omega)]
  generalize fr (dk i) = N at *
  rw [show (((sp_S dk fr nd ni + sg * ln).toNat : Nat) : Int) = sp_S dk fr nd ni + sg * ln by omega]
  generalize sp_S dk fr nd ni + sg * ln = L at *
  have t1 : (L - N - sg) * (ln + 2) = L * (ln + 2) - N * (ln + 2) - sg * (ln + 2) := by rw [Int.sub_mul, Int.sub_mul]
  have t2 : (N - 0) * (-(ln + 1) - 0) = -(N * (ln + 1)) := by rw [Int.sub_zero, Int.sub_zero, Int.mul_neg]
  have t3 : N * (ln + 2) = N * (ln + 1) + N := by rw [show ln + 2 = (ln + 1) + 1 by omega, Int.mul_add N (ln + 1) 1, Int.mul_one]
  have t4 : sg * (ln + 2) = sg * (ln + 1) + sg := by rw [show ln + 2 = (ln + 1) + 1 by omega, Int.mul_add sg (ln + 1) 1, Int.mul_one]
  rw [t1, t2, t3, t4, Int.mul_zero]
  omega
theorem ls_all (h : SV dk fr nd ni sg ln) (hB : BR M j dk fr nd ni sg ln) {i : Int} (hi : 0 ≤ i ∧ i < ni) : ssum (fun t => pg_listen M j i t) (sp_S dk fr nd ni + sg * ln).toNat 0 = pg_ls M j i := by
  have hg := h.2.2.1
  by_cases h0 : sg = 0
  · have e2 : M 17 j 2 = 0 := by rw [hB.2.2.1, h0]
    have hw := ws_all h hB hi
    unfold pg_ls
    rw [if_pos e2, ← hw]
    refine ssum_c _ _ (fun u _ _ => ?_)
    simp only [pg_listen]
    rw [if_pos e2]
  · exact ls_ix2 h hB (by omega) hi
end LS9
theorem ssum_lin {A T : Int → Int} {f : Int} : ∀ (n : Nat) (t : Int), ssum (fun u => A u + f * T u) n t = ssum A n t + f * ssum T n t
  | 0, _ => by simp only [ssum, Int.mul_zero, Int.add_zero]
  | n + 1, t => by
    simp only [ssum]
    rw [ssum_lin n (t + 1), Int.mul_add]
    omega
theorem ws_in_s {a f : Int} {A T : Int → Int} : ∀ (n : Nat) (t w : Int), ws_in a f A T n t w = w + a * ssum (fun u => A u + f * T u) n t
  | 0, _, w => by simp only [ws_in, ssum, Int.mul_zero, Int.add_zero]
  | n + 1, t, w => by
    simp only [ws_in, ssum]
    rw [ws_in_s n (t + 1) _, Int.mul_add a (A t + f * T t)]
    omega
theorem ws_out_s {dk fr pop : Int → Int} {nd ni sg ln f : Int} {M : bc_M} (hv : SV dk fr nd ni sg ln) (hB : BR M 0 dk fr nd ni sg ln) (e8 : M 8 0 = pop) : ∀ (n : Nat) (i w : Int), 0 ≤ i → i + n ≤ ni → ws_out pop f (sp_S dk fr nd ni + sg * ln) (fun i t => pg_wait M 0 i t) (fun i t => pg_listen M 0 i t) n i w = pg_weigh M 0 0 f n i w
  | 0, _, w, _, _ => rfl
  | n + 1, i, w, h0, h1 => by
    simp only [ws_out, pg_weigh]
    rw [ws_in_s, ssum_lin, ws_all hv hB ⟨h0, by omega⟩, ls_all hv hB ⟨h0, by omega⟩, e8]
    exact ws_out_s hv hB e8 n (i + 1) _ (by omega) (by omega)
theorem ws_in_c {a f : Int} {A T A' T' : Int → Int} (h1 : ∀ u, A u = A' u) (h2 : ∀ u, T u = T' u) : ∀ (n : Nat) (t w : Int), ws_in a f A T n t w = ws_in a f A' T' n t w
  | 0, _, w => rfl
  | n + 1, t, w => by
    simp only [ws_in]
    rw [h1, h2, ws_in_c h1 h2 n (t + 1) _]
theorem ws_out_c {M M' : bc_M} {ni : Int} {pop : Int → Int} {f len : Int} (hp : PE M 0 M' 0 ni) : ∀ (n : Nat) (i w : Int), 0 ≤ i → i + n ≤ ni → ws_out pop f len (fun i t => pg_wait M 0 i t) (fun i t => pg_listen M 0 i t) n i w = ws_out pop f len (fun i t => pg_wait M' 0 i t) (fun i t => pg_listen M' 0 i t) n i w
  | 0, _, w, _, _ => rfl
  | n + 1, i, w, h0, h1 => by
    simp only [ws_out]
    rw [ws_in_c (fun u => hp.wait ⟨h0, by omega⟩) (fun u => hp.listen ⟨h0, by omega⟩)]
    exact ws_out_c hp n (i + 1) _ (by omega) (by omega)
/-- the class's weight is the model's -/
theorem sp_W_eq {dk fr pop : Int → Int} {nd ni sg ln f : Int} (hv : SV dk fr nd ni sg ln) : sp_W dk fr pop nd ni sg ln f = sp_WS dk fr pop nd ni sg ln f := by
  unfold sp_W
  rw [← ws_out_s hv spX_br (by unfold spX; rw [row_kne (by decide), row_at]) _ _ _ (by omega) (by have := hv.2.1; omega)]
  unfold sp_WS
  have hpe := BR.pe hv (spX_br (dk := dk) (fr := fr) (pop := pop) (bnd := pop) (nd := nd) (ni := ni) (sg := sg) (ln := ln)) spM_br
  exact ws_out_c hpe _ _ _ (by omega) (by have := hv.2.1; omega)
