theorem sq_any_s {f : Int → Int} {s : Int} : ∀ (n : Nat) (a : Int), sq_any f s n a = true ↔ ∃ q, a ≤ q ∧ q < a + n ∧ f q = s
  | 0, a => by
    simp only [sq_any]
    constructor
    · intro h; exact absurd h (by decide)
    · rintro ⟨q, x, y, _⟩; omega
  | n + 1, a => by
    simp only [sq_any, Bool.or_eq_true, decide_eq_true_eq]
    rw [sq_any_s n (a + 1)]
    constructor
    · rintro (h | ⟨q, x, y, z⟩)
      · exact ⟨a, by omega, by omega, h⟩
      · exact ⟨q, by omega, by omega, z⟩
    · rintro ⟨q, x, y, z⟩
      by_cases hq : q = a
      · exact Or.inl (by rw [← hq]; exact z)
      · exact Or.inr ⟨q, by omega, by omega, z⟩
theorem nxt_0 {O : Int → Prop} {len s d : Int} (hs : 0 ≤ s ∧ s < len) (h : nxt O len s d) : d = 0 ↔ O s := by
  have e : (s + 0) % len = s := by rw [Int.add_zero]; exact Int.emod_eq_of_lt hs.1 hs.2
  constructor
  · intro hd
    subst hd
    have := h.2.1
    rw [e] at this
    exact this
  · intro ho
    apply Decidable.byContradiction
    intro hne
    have := h.2.2 0 (by omega) (by have := h.1; omega)
    rw [e] at this
    exact this ho
section ACC
variable {dk fr : Int → Int} {nd ni sg ln j : Int} {D p : Int → Int} {M : bc_M}
theorem far_nx (h : SV dk fr nd ni sg ln) (hB : BR M j dk fr nd ni sg ln) (hg : DI dk fr nd ni D (sp_N dk fr nd ni) 0) (hP : PP D p sg (sp_S dk fr nd ni) ln (sp_S dk fr nd ni + sg * ln) sg (sp_S dk fr nd ni)) {i s : Int} (hi : 0 ≤ i ∧ i < ni) (hs : 0 ≤ s ∧ s < sp_S dk fr nd ni + sg * ln) : sp_far p i (sp_S dk fr nd ni + sg * ln) s = pg_nx M j i s - s ∧ (sp_far p i (sp_S dk fr nd ni + sg * ln) s = 0 ↔ pg_on M j i s = true) := by
  have hpv := (BR.pv h hB).1
  obtain ⟨b0, b1, b2, b3, b4, b5⟩ := hB
  obtain ⟨c1, c2⟩ := b5 i hi.1 hi.2
  have hd := h.2.2.2.2.2 i hi.1 hi.2
  have hf := h.2.2.2.2.1 (dk i) hd.1 hd.2
  have ht := (hpv.2.2.2.2.2 i hi.1 hi.2).2
  rw [c1, b0] at ht
  generalize hlen : sp_S dk fr nd ni + sg * ln = len at *
  have hl : 1 ≤ len := by omega
  have hO : ∀ t, 0 ≤ t → t < len → (p t = i ↔ ∃ q, 0 ≤ q ∧ q < fr (dk i) ∧ t = M 21 (16 * j + i) q) := fun t a b => by
    rw [P_item h hg (by rw [hlen]; exact hP) (t := t) (by rw [hlen]; exact ⟨a, b⟩) hi]
    constructor
    · rintro ⟨q, x, y, z⟩; exact ⟨q, x, y, by rw [c2 q x y]; exact z⟩
    · rintro ⟨q, x, y, z⟩; exact ⟨q, x, y, by rw [← c2 q x y]; exact z⟩
  have h0 := ht 0 (by omega) (by omega)
  have n1 := far_s (p := p) (x := i) hl hs h0 ((hO _ h0.1 h0.2).mpr ⟨0, by omega, by omega, rfl⟩)
  have n2 := nx_s (f := M 21 (16 * j + i)) (N := fr (dk i)) hl hs hf.1 ht (fun q q' a b c => by
    rw [c2 q a (by omega), c2 q' (by omega) c]
    exact sp_T_mono h hi b)
  have n3 := nxt_iff hl hO n1
  refine ⟨?_, ?_⟩
  · unfold pg_nx
    rw [c1, b0]
    exact nxt_u n3 n2
  · rw [nxt_0 hs n3]
    unfold pg_on
    rw [c1, sq_any_s]
    constructor
    · rintro ⟨q, x, y, z⟩; exact ⟨q, x, by omega, z.symm⟩
    · rintro ⟨q, x, y, z⟩; exact ⟨q, x, by omega, z.symm⟩
theorem far_sx (h : SV dk fr nd ni sg ln) (hB : BR M j dk fr nd ni sg ln) (hg : DI dk fr nd ni D (sp_N dk fr nd ni) 0) (hP : PP D p sg (sp_S dk fr nd ni) ln (sp_S dk fr nd ni + sg * ln) sg (sp_S dk fr nd ni)) (hsg : 0 < sg) {s : Int} (hs : 0 ≤ s ∧ s < sp_S dk fr nd ni + sg * ln) : sp_far p (-3) (sp_S dk fr nd ni + sg * ln) s = pg_sx M j s - s ∧ (sp_far p (-3) (sp_S dk fr nd ni + sg * ln) s = 0 ↔ pg_st M j s = true) := by
  have hpv := (BR.pv h hB).1
  obtain ⟨b0, b1, b2, b3, b4, b5⟩ := hB
  have ht := hpv.2.2.2.1
  rw [b2, b0] at ht
  generalize hlen : sp_S dk fr nd ni + sg * ln = len at *
  have hl : 1 ≤ len := by omega
  have hO : ∀ t, 0 ≤ t → t < len → (p t = -3 ↔ ∃ q, 0 ≤ q ∧ q < sg ∧ t = M 18 j q) := fun t a b => by
    rw [P_seg h hg (by rw [hlen]; exact hP) (t := t) (by rw [hlen]; exact ⟨a, b⟩)]
    constructor
    · rintro ⟨q, x, y, z⟩; exact ⟨q, x, y, by rw [b4 q x y]; exact z⟩
    · rintro ⟨q, x, y, z⟩; exact ⟨q, x, y, by rw [← b4 q x y]; exact z⟩
  have h0 := ht 0 (by omega) (by omega)
  have n1 := far_s (p := p) (x := -3) hl hs h0 ((hO _ h0.1 h0.2).mpr ⟨0, by omega, by omega, rfl⟩)
  have n2 := nx_s (f := M 18 j) (N := sg) hl hs hsg ht (fun q q' a b c => by
    rw [b4 q a (by omega), b4 q' (by omega) c]
    exact sp_st_mono h a b c)
  have n3 := nxt_iff hl hO n1
  refine ⟨?_, ?_⟩
  · unfold pg_sx
    rw [b2, b0]
    exact nxt_u n3 n2
  · rw [nxt_0 hs n3]
    unfold pg_st
    rw [b2, sq_any_s]
    constructor
    · rintro ⟨q, x, y, z⟩; exact ⟨q, x, by omega, z.symm⟩
    · rintro ⟨q, x, y, z⟩; exact ⟨q, x, by omega, z.symm⟩
/-- the model's access and tuning times are the class's -/
theorem acc_eq (h : SV dk fr nd ni sg ln) (hB : BR M j dk fr nd ni sg ln) (hg : DI dk fr nd ni D (sp_N dk fr nd ni) 0) (hP : PP D p sg (sp_S dk fr nd ni) ln (sp_S dk fr nd ni + sg * ln) sg (sp_S dk fr nd ni)) {i t : Int} (hi : 0 ≤ i ∧ i < ni) : sp_ac p sg ln i (sp_S dk fr nd ni + sg * ln) (t % (sp_S dk fr nd ni + sg * ln)) = pg_wait M j i t ∧ sp_tu p sg ln i (sp_S dk fr nd ni + sg * ln) (t % (sp_S dk fr nd ni + sg * ln)) = pg_listen M j i t := by
  have hpv := (BR.pv h hB).1
  have hcy := hpv.1
  obtain ⟨b0, b1, b2, b3, _, _⟩ := id hB
  rw [b0] at hcy
  have hs : 0 ≤ t % (sp_S dk fr nd ni + sg * ln) ∧ t % (sp_S dk fr nd ni + sg * ln) < sp_S dk fr nd ni + sg * ln := ⟨Int.emod_nonneg _ (by omega), Int.emod_lt_of_pos _ (by omega)⟩
  have f1 := far_nx h hB hg hP hi hs
  have hsgr := h.2.2.1
  have hac : sp_ac p sg ln i (sp_S dk fr nd ni + sg * ln) (t % (sp_S dk fr nd ni + sg * ln)) = pg_wait M j i t := by
    unfold sp_ac pg_wait pg_from
    rw [b0, b2, b3]
    generalize hsv : t % (sp_S dk fr nd ni + sg * ln) = s at *
    have hmod : s % (sp_S dk fr nd ni + sg * ln) = s := Int.emod_eq_of_lt hs.1 hs.2
    by_cases hc : sg = 0 ∨ sp_far p i (sp_S dk fr nd ni + sg * ln) s = 0
    · rw [if_pos hc, if_neg (by
        rintro ⟨q1, q2⟩
        rcases hc with q | q
        · omega
        · rw [f1.2.mp q] at q2; exact absurd q2 (by decide)), hmod, f1.1]
      omega
    · have hon : pg_on M j i s = false := by
        cases hq : pg_on M j i s
        · rfl
        · exact absurd (Or.inr (f1.2.mpr hq)) hc
      have hsg : 0 < sg := by
        apply Decidable.byContradiction
        intro q
        exact hc (Or.inl (by omega))
      have f2 := far_sx h hB hg hP hsg hs
      rw [if_neg hc, if_pos ⟨hsg, hon⟩]
      have hx : s + (sp_far p (-3) (sp_S dk fr nd ni + sg * ln) s + ln) = pg_sx M j s + ln := by omega
      rw [hx]
      have hs2 : 0 ≤ (pg_sx M j s + ln) % (sp_S dk fr nd ni + sg * ln) ∧ (pg_sx M j s + ln) % (sp_S dk fr nd ni + sg * ln) < sp_S dk fr nd ni + sg * ln := ⟨Int.emod_nonneg _ (by omega), Int.emod_lt_of_pos _ (by omega)⟩
      have f3 := far_nx h hB hg hP hi hs2
      rw [f3.1]
      omega
  refine ⟨hac, ?_⟩
  unfold sp_tu pg_listen
  rw [b0, b2, b3, ← hac]
  unfold sp_ac
  generalize hsv : t % (sp_S dk fr nd ni + sg * ln) = s at *
  by_cases h0 : sg = 0
  · rw [if_pos (Or.inl h0), if_pos h0, if_pos (Or.inl h0)]
  · rw [if_neg h0]
    by_cases hon : pg_on M j i s = true
    · have hz := f1.2.mpr hon
      rw [if_pos (Or.inr hz), if_pos hon, hz]
      rfl
    · rw [if_neg (fun q => hon (f1.2.mp (q.resolve_left h0))), if_neg hon]
      have f2 := far_sx h hB hg hP (by omega) hs
      by_cases hst : pg_st M j s = true
      · rw [if_pos (f2.2.mpr hst), if_pos hst]
      · rw [if_neg (fun q => hst (f2.2.mp q)), if_neg hst]
end ACC
