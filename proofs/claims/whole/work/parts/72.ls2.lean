theorem ssum_k {c : Int} : ∀ (n : Nat) (t : Int), ssum (fun _ => c) n t = n * c
  | 0, _ => by simp [ssum]
  | n + 1, t => by
    simp only [ssum]
    rw [ssum_k n (t + 1), show ((n + 1 : Nat) : Int) = (n : Int) + 1 by omega, Int.add_mul, Int.one_mul]
    omega
section LS
variable {dk fr : Int → Int} {nd ni sg ln j : Int} {D p : Int → Int} {M : bc_M}
/-- with index the listening sum is the sum over the slots -/
theorem ls_ix (h : SV dk fr nd ni sg ln) (hB : BR M j dk fr nd ni sg ln) (hg : DI dk fr nd ni D (sp_N dk fr nd ni) 0) (hP : PP D p sg (sp_S dk fr nd ni) ln (sp_S dk fr nd ni + sg * ln) sg (sp_S dk fr nd ni)) (hsg : 0 < sg) {i : Int} (hi : 0 ≤ i ∧ i < ni) : ssum (fun t => pg_listen M j i t) (sp_S dk fr nd ni + sg * ln).toNat 0 = pg_ls M j i := by
  obtain ⟨hf, hm, hr⟩ := item_t h hB hi
  have hpv := (BR.pv h hB).1
  have hcy := hpv.1
  have hst := hpv.2.2.2.1
  obtain ⟨b0, b1, b2, b3, b4, b5⟩ := id hB
  obtain ⟨c1, c2⟩ := b5 i hi.1 hi.2
  rw [b0] at hcy
  rw [b0, b2] at hst
  have n1 := ssum_cnt (c := -(ln + 1)) (d := 0) (O := fun u => pg_on M j i u) hm hr (fun t => by
    unfold pg_on
    rw [c1, sq_any_s]
    constructor
    · rintro ⟨q, x, y, z⟩; exact ⟨q, x, by omega, z.symm⟩
    · rintro ⟨q, x, y, z⟩; exact ⟨q, x, by omega, z.symm⟩) (sp_S dk fr nd ni + sg * ln).toNat 0 0 (by omega) (by omega) ⟨by omega, fun q a b => by omega, fun q a b => (hr q a b).1⟩
  have n2 := ssum_cnt (f := M 18 j) (N := sg) (len := sp_S dk fr nd ni + sg * ln) (c := -1) (d := 0) (O := fun u => pg_st M j u) (fun q q' a b c => by
    rw [b4 q a (by omega), b4 q' (by omega) c]
    exact sp_st_mono h a b c) hst (fun t => by
    unfold pg_st
    rw [b2, sq_any_s]
    constructor
    · rintro ⟨q, x, y, z⟩; exact ⟨q, x, by omega, z.symm⟩
    · rintro ⟨q, x, y, z⟩; exact ⟨q, x, by omega, z.symm⟩) (sp_S dk fr nd ni + sg * ln).toNat 0 0 (by omega) (by omega) ⟨by omega, fun q a b => by omega, fun q a b => (hst q a b).1⟩
  have n3 := ssum_k (c := ln + 2) (sp_S dk fr nd ni + sg * ln).toNat 0
  have e : ssum (fun t => pg_listen M j i t) (sp_S dk fr nd ni + sg * ln).toNat 0 = ssum (fun u => (ln + 2) + ((if pg_on M j i u = true then -(ln + 1) else 0) + (if pg_st M j u = true then -1 else 0))) (sp_S dk fr nd ni + sg * ln).toNat 0 := by
    refine ssum_c _ _ (fun u a b => ?_)
    have hu : u % (sp_S dk fr nd ni + sg * ln) = u := mod_lo a (by omega)
    have hs : 0 ≤ u ∧ u < sp_S dk fr nd ni + sg * ln := ⟨a, by omega⟩
    have f1 := (far_nx h hB hg hP hi hs).2
    have f2 := (far_sx h hB hg hP hsg hs).2
    simp only [pg_listen]
    rw [b0, b2, b3, hu, if_neg (by omega)]
    by_cases hon : pg_on M j i u = true
    · have hst2 : ¬ pg_st M j u = true := by
        intro hq
        have q1 : p u = i := by
          rw [P_item h hg hP hs hi]
          unfold pg_on at hon
          rw [c1, sq_any_s] at hon
          obtain ⟨q, x, y, z⟩ := hon
          exact ⟨q, x, by omega, by rw [← c2 q x (by omega)]; exact z.symm⟩
        have q2 : p u = -3 := by
          rw [P_seg h hg hP hs]
          unfold pg_st at hq
          rw [b2, sq_any_s] at hq
          obtain ⟨q, x, y, z⟩ := hq
          exact ⟨q, x, by omega, by rw [← b4 q x (by omega)]; exact z.symm⟩
        omega
      rw [if_pos hon, if_pos hon, if_neg hst2]
      omega
    · rw [if_neg hon, if_neg hon]
      by_cases hst2 : pg_st M j u = true
      · rw [if_pos hst2, if_pos hst2]; omega
      · rw [if_neg hst2, if_neg hst2]; omega
  rw [e, ssum_add (A := fun _ => ln + 2) (B := fun u => (if pg_on M j i u = true then -(ln + 1) else 0) + (if pg_st M j u = true then -1 else 0)), ssum_add (A := fun u => if pg_on M j i u = true then -(ln + 1) else 0) (B := fun u => if pg_st M j u = true then -1 else 0), n1, n2, n3]
  unfold pg_ls
  rw [b0, b2, b3, c1, if_neg (by omega)]
  generalize fr (dk i) = N at *
  rw [show (((sp_S dk fr nd ni + sg * ln).toNat : Nat) : Int) = sp_S dk fr nd ni + sg * ln by omega]
  generalize sp_S dk fr nd ni + sg * ln = L at *
  have t1 : (L - N - sg) * (ln + 2) = L * (ln + 2) - N * (ln + 2) - sg * (ln + 2) := by rw [Int.sub_mul, Int.sub_mul]
  have t2 : (N - 0) * (-(ln + 1) - 0) = -(N * (ln + 1)) := by rw [Int.sub_zero, Int.sub_zero, Int.mul_neg]
  have t3 : N * (ln + 2) = N * (ln + 1) + N := by rw [show ln + 2 = (ln + 1) + 1 by omega, Int.mul_add N (ln + 1) 1, Int.mul_one]
  have t4 : sg * (ln + 2) = sg * (ln + 1) + sg := by rw [show ln + 2 = (ln + 1) + 1 by omega, Int.mul_add sg (ln + 1) 1, Int.mul_one]
  rw [t1, t2, t3, t4, Int.mul_zero]
  omega
end LS
