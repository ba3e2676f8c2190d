/-! answers of the class and of the model over the same settings -/
theorem pg_seg_s {M : bc_M} {j s z : Int} : ∀ (n : Nat) (k : Int), (∃ k', k ≤ k' ∧ k' < k + n ∧ (M 18 j k' ≤ s ∧ s < M 18 j k' + M 17 j 3) ∧ pg_seg M j s z n k = -3 - (s - M 18 j k')) ∨ ((∀ k', k ≤ k' → k' < k + n → ¬ (M 18 j k' ≤ s ∧ s < M 18 j k' + M 17 j 3)) ∧ pg_seg M j s z n k = z)
  | 0, k => Or.inr ⟨fun k' a b => by omega, rfl⟩
  | n + 1, k => by
    simp only [pg_seg]
    by_cases h : M 18 j k ≤ s ∧ s < M 18 j k + M 17 j 3
    · rw [if_pos h]; exact Or.inl ⟨k, by omega, by omega, h, rfl⟩
    · rw [if_neg h]
      rcases pg_seg_s n (k + 1) with ⟨k', a, b, c, d⟩ | ⟨a, b⟩
      · exact Or.inl ⟨k', by omega, by omega, c, d⟩
      · refine Or.inr ⟨fun k' x y => ?_, b⟩
        by_cases e : k' = k
        · subst e; exact h
        · exact a k' (by omega) (by omega)
theorem pg_item_s {M : bc_M} {j s : Int} : ∀ (n : Nat) (i : Int), ((i ≤ pg_item M j s n i ∧ pg_item M j s n i < i + n) ∧ pg_on M j (pg_item M j s n i) s = true) ∨ ((∀ i', i ≤ i' → i' < i + n → pg_on M j i' s = false) ∧ pg_item M j s n i = -2)
  | 0, i => Or.inr ⟨fun i' a b => by omega, rfl⟩
  | n + 1, i => by
    simp only [pg_item]
    cases h : pg_on M j i s
    · simp only [Bool.false_eq_true, if_false]
      rcases pg_item_s (M := M) (j := j) (s := s) n (i + 1) with ⟨a, b⟩ | ⟨a, b⟩
      · exact Or.inl ⟨by omega, b⟩
      · refine Or.inr ⟨fun k' x y => ?_, b⟩
        by_cases e : k' = i
        · subst e; exact h
        · exact a k' (by omega) (by omega)
    · simp only [if_true]
      exact Or.inl ⟨by omega, h⟩
section ANS
variable {dk fr : Int → Int} {nd ni sg ln j : Int} {D p : Int → Int} {M : bc_M}
theorem D_rng2 (h : SV dk fr nd ni sg ln) {g : Int → Int} (hg : DI dk fr nd ni g (sp_N dk fr nd ni) 0) {y : Int} (hy : 0 ≤ y ∧ y < sp_S dk fr nd ni) : g y = -2 ∨ (0 ≤ g y ∧ g y < ni) := by
  obtain ⟨r, d, q, hr, hd, hq, rfl⟩ := D_dec h hy
  rw [hg r d q hr.1 hd.1 hd.2 (Or.inl hr.2) hq.1 hq.2]
  unfold sp_ck
  rcases sp_it_s h (ck_rng h hr hd hq) with e | e
  · rw [e]; omega
  · exact Or.inr e.1
theorem on_T (h : SV dk fr nd ni sg ln) (hB : BR M j dk fr nd ni sg ln) (hg : DI dk fr nd ni D (sp_N dk fr nd ni) 0) (hP : PP D p sg (sp_S dk fr nd ni) ln (sp_S dk fr nd ni + sg * ln) sg (sp_S dk fr nd ni)) {t i : Int} (ht : 0 ≤ t ∧ t < sp_S dk fr nd ni + sg * ln) (hi : 0 ≤ i ∧ i < ni) : pg_on M j i t = true ↔ p t = i := by
  obtain ⟨b0, b1, b2, b3, b4, b5⟩ := hB
  obtain ⟨c1, c2⟩ := b5 i hi.1 hi.2
  rw [P_item h hg hP ht hi]
  unfold pg_on
  rw [c1, sq_any_s]
  constructor
  · rintro ⟨q, x, y, z⟩; exact ⟨q, x, by omega, by rw [← c2 q x (by omega)]; exact z.symm⟩
  · rintro ⟨q, x, y, z⟩; exact ⟨q, x, by omega, by rw [c2 q x (by omega)]; exact z.symm⟩
/-- what a slot holds -/
theorem content_eq (h : SV dk fr nd ni sg ln) (hB : BR M j dk fr nd ni sg ln) (hg : DI dk fr nd ni D (sp_N dk fr nd ni) 0) (hP : PP D p sg (sp_S dk fr nd ni) ln (sp_S dk fr nd ni + sg * ln) sg (sp_S dk fr nd ni)) {t : Int} (ht : 0 ≤ t ∧ t < sp_S dk fr nd ni + sg * ln) : pg_content M j ni t = p t := by
  have hni := h.2.1
  have hgg := h.2.2.1
  obtain ⟨b0, b1, b2, b3, b4, b5⟩ := id hB
  unfold pg_content
  rw [b2]
  rcases pg_seg_s (M := M) (j := j) (s := t) (z := pg_item M j t ni.toNat 0) sg.toNat 0 with ⟨k, a, b, c, d⟩ | ⟨a, b⟩
  · rw [d]
    rw [b3, b4 k a (by omega)] at c
    have hp := (hP.2.1 k (t - (k * sp_S dk fr nd ni / sg + k * ln)) a (by omega) (by omega) (by omega)).2
    unfold sg_x at hp
    rw [show k * sp_S dk fr nd ni / sg + k * ln + (t - (k * sp_S dk fr nd ni / sg + k * ln)) = t by omega] at hp
    rw [hp, b4 k a (by omega)]
  · rw [b]
    have hd : p t = -2 ∨ (0 ≤ p t ∧ p t < ni) := by
      rcases hP.2.2 t ht.1 ht.2 with ⟨y, y0, y1, ye⟩ | ⟨q, v, q0, q1, v0, v1, e⟩
      · have := (hP.1 y y0 y1).2
        rw [← ye] at this
        rw [this]
        exact D_rng2 h hg ⟨y0, y1⟩
      · exfalso
        refine a q q0 (by omega) ?_
        rw [b3, b4 q q0 q1]
        unfold sg_x at e
        omega
    rcases pg_item_s (M := M) (j := j) (s := t) ni.toNat 0 with ⟨x, y⟩ | ⟨x, y⟩
    · exact ((on_T h hB hg hP ht ⟨x.1, by omega⟩).mp y).symm
    · rw [y]
      rcases hd with e | e
      · exact e.symm
      · have := (on_T h hB hg hP (i := p t) ht e).mpr rfl
        rw [x (p t) e.1 (by omega)] at this
        exact absurd this (by decide)
end ANS
theorem tmn_ss {p : Int → Int} {x : Int} : ∀ (n : Nat) (t w : Int), tmn p x n t w = w + ssum (fun u => if p u = x then 1 else 0) n t
  | 0, t, w => by simp only [tmn, ssum]; omega
  | n + 1, t, w => by
    simp only [tmn, ssum]
    rw [tmn_ss n (t + 1)]
    split <;> omega
theorem fc_emp_s {g : Int → Int} : ∀ (n : Nat) (i : Nat) (s : Int), fc_emp g n i s = s - (sp_sum g (i + n) - sp_sum g i)
  | 0, i, s => by simp only [fc_emp, Nat.add_zero]; omega
  | n + 1, i, s => by
    simp only [fc_emp]
    rw [show (i : Int) + 1 = ((i + 1 : Nat) : Int) by omega, fc_emp_s n (i + 1), show i + 1 + n = i + (n + 1) by omega]
    simp only [sp_sum]
    omega
theorem ssum_items {ni : Int} {p : Int → Int} {N : Int → Int} {L : Nat} (hN : ∀ i, 0 ≤ i → i < ni → ssum (fun u => if p u = i then 1 else 0) L 0 = N i) : ∀ n : Nat, (n : Int) ≤ ni → ssum (fun u => sp_sum (fun i => if p u = i then 1 else 0) n) L 0 = sp_sum N n
  | 0, _ => by
    simp only [sp_sum]
    have := ssum_k (c := 0) L 0
    rw [this, Int.mul_zero]
  | n + 1, h => by
    simp only [sp_sum]
    rw [ssum_add (A := fun u => sp_sum (fun i => if p u = i then 1 else 0) n) (B := fun u => if p u = (n : Int) then 1 else 0), ssum_items hN n (by omega), hN n (by omega) (by omega)]
theorem sp_sum_is {x : Int} : ∀ n : Nat, sp_sum (fun i => if x = i then 1 else 0) n = if 0 ≤ x ∧ x < n then 1 else 0
  | 0 => by
    simp only [sp_sum]
    rw [if_neg (by omega)]
  | n + 1 => by
    simp only [sp_sum]
    rw [sp_sum_is n]
    by_cases h1 : 0 ≤ x ∧ x < n
    · rw [if_pos h1, if_neg (by omega), if_pos (by omega)]; omega
    · rw [if_neg h1]
      by_cases h2 : x = n
      · rw [if_pos h2, if_pos (by omega)]; omega
      · rw [if_neg h2, if_neg (by omega)]; omega
section ANS2
variable {dk fr : Int → Int} {nd ni sg ln j : Int} {D p : Int → Int} {M : bc_M}
/-- how many slots are empty -/
theorem empty_eq (h : SV dk fr nd ni sg ln) (hB : BR M j dk fr nd ni sg ln) (hg : DI dk fr nd ni D (sp_N dk fr nd ni) 0) (hP : PP D p sg (sp_S dk fr nd ni) ln (sp_S dk fr nd ni + sg * ln) sg (sp_S dk fr nd ni)) : fc_emp (M 19 j) ni.toNat 0 (M 17 j 1) = tmn p (-2) (sp_S dk fr nd ni + sg * ln).toNat 0 0 := by
  have hni := h.2.1
  have hgg := h.2.2.1
  have hl := h.2.2.2.1
  have hS := sp_S_rng h
  obtain ⟨b0, b1, b2, b3, b4, b5⟩ := id hB
  have hnn : 0 ≤ sg * ln := Int.mul_nonneg hgg.1 (by omega)
  have e1 := fc_emp_s (g := M 19 j) ni.toNat 0 (M 17 j 1)
  have e2 := tmn_ss (p := p) (x := -2) (sp_S dk fr nd ni + sg * ln).toNat 0 0
  have hN : ∀ i, 0 ≤ i → i < ni → ssum (fun u => if p u = i then 1 else 0) (sp_S dk fr nd ni + sg * ln).toNat 0 = M 19 j i := fun i a b => by
    obtain ⟨f1, f2, f3⟩ := item_t h hB ⟨a, b⟩
    obtain ⟨c1, c2⟩ := b5 i a b
    have hc := ssum_cnt (c := 1) (d := 0) (O := fun u => decide (0 ≤ u ∧ u < sp_S dk fr nd ni + sg * ln ∧ p u = i)) f2 f3 (fun t => by
      rw [decide_eq_true_iff]
      constructor
      · rintro ⟨x, y, z⟩
        obtain ⟨q, q0, q1, q2⟩ := (P_item h hg hP ⟨x, y⟩ ⟨a, b⟩).mp z
        exact ⟨q, q0, q1, by rw [c2 q q0 q1]; exact q2⟩
      · rintro ⟨q, q0, q1, q2⟩
        have hr := f3 q q0 q1
        rw [← q2] at hr
        exact ⟨hr.1, hr.2, (P_item h hg hP hr ⟨a, b⟩).mpr ⟨q, q0, q1, by rw [← c2 q q0 q1]; exact q2⟩⟩) (sp_S dk fr nd ni + sg * ln).toNat 0 0 (by omega) (by omega) ⟨by omega, fun q a b => by omega, fun q a b => (f3 q a b).1⟩
    rw [c1, show fr (dk i) = (fr (dk i) - 0) * (1 - 0) + ((sp_S dk fr nd ni + sg * ln).toNat : Int) * 0 by omega, ← hc]
    refine ssum_c _ _ (fun u x y => ?_)
    simp only [decide_eq_true_eq]
    by_cases e : p u = i
    · rw [if_pos e, if_pos ⟨x, by omega, e⟩]
    · rw [if_neg e, if_neg (fun q => e q.2.2)]
  have e3 := ssum_items (ni := ni) hN ni.toNat (by omega)
  have e4 := ssum_cnt (f := fun y => sp_tm sg (sp_S dk fr nd ni) ln y) (N := sp_S dk fr nd ni) (len := sp_S dk fr nd ni + sg * ln) (c := 1) (d := 0) (O := fun u => decide (0 ≤ u ∧ u < sp_S dk fr nd ni + sg * ln ∧ -2 ≤ p u)) (fun q q' a b c => sp_tm_mono hgg.1 (by omega) (by omega) b) (fun q a b => by have := sp_tm_rng (sg := sg) (S := sp_S dk fr nd ni) (ln := ln) hgg hl.1 ⟨a, b⟩; omega) (fun t => by
      rw [decide_eq_true_iff]
      constructor
      · rintro ⟨x, y, z⟩
        rcases hP.2.2 t x y with ⟨y, y0, y1, ye⟩ | ⟨q, v, q0, q1, v0, v1, e⟩
        · exact ⟨y, y0, y1, ye⟩
        · have := (hP.2.1 q v q0 q1 v0 v1).2
          rw [← e] at this
          omega
      · rintro ⟨y, y0, y1, ye⟩
        have hr := hP.1 y y0 y1
        rw [← ye] at hr
        refine ⟨hr.1.1, hr.1.2, ?_⟩
        rw [hr.2]
        have := D_rng2 h hg ⟨y0, y1⟩
        omega) (sp_S dk fr nd ni + sg * ln).toNat 0 0 (by omega) (by omega) ⟨by omega, fun q a b => by omega, fun q a b => by have := sp_tm_rng (sg := sg) (S := sp_S dk fr nd ni) (ln := ln) hgg hl.1 ⟨a, b⟩; show 0 ≤ sp_tm sg (sp_S dk fr nd ni) ln q; omega⟩
  have e5 : ssum (fun u => if decide (0 ≤ u ∧ u < sp_S dk fr nd ni + sg * ln ∧ -2 ≤ p u) = true then 1 else 0) (sp_S dk fr nd ni + sg * ln).toNat 0 = ssum (fun u => (if p u = -2 then 1 else 0) + sp_sum (fun i => if p u = i then 1 else 0) ni.toNat) (sp_S dk fr nd ni + sg * ln).toNat 0 := by
    refine ssum_c _ _ (fun u x y => ?_)
    simp only [decide_eq_true_eq]
    rw [sp_sum_is]
    have hd : p u ≤ -3 ∨ p u = -2 ∨ (0 ≤ p u ∧ p u < ni) := by
      rcases hP.2.2 u x (by omega) with ⟨y, y0, y1, ye⟩ | ⟨q, v, q0, q1, v0, v1, e⟩
      · have := (hP.1 y y0 y1).2
        rw [← ye] at this
        rw [this]
        exact Or.inr (D_rng2 h hg ⟨y0, y1⟩)
      · have := (hP.2.1 q v q0 q1 v0 v1).2
        rw [← e] at this
        exact Or.inl (by omega)
    by_cases c1 : p u = -2
    · rw [if_pos (by omega), if_pos c1, if_neg (by omega)]; omega
    · rw [if_neg c1]
      by_cases c2 : 0 ≤ p u ∧ p u < ni
      · rw [if_pos (by omega), if_pos (by omega)]; omega
      · rw [if_neg (by omega), if_neg (by omega)]; omega
  rw [ssum_add (A := fun u => if p u = -2 then 1 else 0) (B := fun u => sp_sum (fun i => if p u = i then 1 else 0) ni.toNat)] at e5
  simp only [Nat.zero_add, sp_sum] at e1
  rw [show ((0 : Nat) : Int) = 0 by rfl] at e1
  rw [e1, e2, b1]
  omega
end ANS2
/-- the worst time -/
theorem fc_wf_w {M : bc_M} {s t ni : Int} {W : Int → Int → Int} (hW : ∀ i, 0 ≤ i → i < ni → pg_wait M 0 i t = W i t) : ∀ (n : Nat) (i w : Int), 0 ≤ i → i + n ≤ ni → fc_wf M s t n i w = wfW W s t n i w
  | 0, _, _, _, _ => rfl
  | n + 1, i, w, h0, h1 => by
    simp only [fc_wf, wfW]
    rw [hW i h0 (by omega), fc_wf_w hW n (i + 1) _ (by omega) (by omega)]
theorem fc_wt_w {M : bc_M} {s : Int} {g : Int → Int} : ∀ (n : Nat) (t b : Int), (∀ u, t ≤ u → u < t + n → fc_wf M s u (M 6 1 3).toNat 0 0 = g u) → fc_wt M s n t b (g b) = mo_wt g n t b
  | 0, _, _, _ => rfl
  | n + 1, t, b, hg => by
    simp only [fc_wt, mo_wt]
    rw [hg t (by omega) (by omega)]
    by_cases h : g b < g t
    · rw [if_pos h, if_pos h]; exact fc_wt_w n (t + 1) t (fun u x y => hg u (by omega) (by omega))
    · rw [if_neg h, if_neg h]; exact fc_wt_w n (t + 1) b (fun u x y => hg u (by omega) (by omega))
theorem fc_wt_0 {M : bc_M} {s len : Int} {g : Int → Int} (hl : 1 ≤ len) (hg : ∀ u, 0 ≤ u → u < len → fc_wf M s u (M 6 1 3).toNat 0 0 = g u) (h0 : 0 ≤ g 0) : fc_wt M s len.toNat 0 0 0 = mo_wt g (len - 1).toNat 1 0 := by
  rw [show len.toNat = (len - 1).toNat + 1 by omega]
  simp only [fc_wt]
  rw [hg 0 (by omega) (by omega)]
  by_cases h : 0 < g 0
  · rw [if_pos h]
    exact fc_wt_w _ _ _ (fun u x y => hg u (by omega) (by omega))
  · rw [if_neg h]
    have := fc_wt_w (M := M) (s := s) (g := g) (len - 1).toNat 1 0 (fun u x y => hg u (by omega) (by omega))
    rw [show g 0 = 0 by omega] at this
    exact this
theorem wfW_nn {W : Int → Int → Int} {s t : Int} (hW : ∀ i, 0 ≤ W i t) : ∀ (n : Nat) (i w : Int), 0 ≤ w → 0 ≤ wfW W s t n i w
  | 0, _, _, h => h
  | n + 1, i, w, h => by
    simp only [wfW]
    have := hW i
    exact wfW_nn hW n (i + 1) _ (by split <;> omega)
/-- the nearest and the lowest -/
theorem fc_near_w {M : bc_M} {s t ni : Int} {V : Int → Int} (hV : ∀ i, 0 ≤ i → i < ni → bs s i = true → pg_wait M 0 i t = V i) : ∀ (n : Nat) (i b l : Int), 0 ≤ i → i + n ≤ ni → fc_near M s t n i b l = mo_near V s n i b l
  | 0, _, _, _, _, _ => rfl
  | n + 1, i, b, l, h0, h1 => by
    simp only [fc_near, mo_near]
    by_cases hb : bs s i = true
    · rw [hV i h0 (by omega) hb, fc_near_w hV n (i + 1) i _ (by omega) (by omega), fc_near_w hV n (i + 1) b l (by omega) (by omega)]
    · rw [if_neg (fun q => hb q.1), if_neg (fun q => hb q.1), fc_near_w hV n (i + 1) b l (by omega) (by omega)]
theorem mo_near_done {V : Int → Int} {s b : Int} (hb : b ≠ -2) (hV : ∀ i, 0 ≤ V i) : ∀ (n : Nat) (i : Int), mo_near V s n i b 0 = b
  | 0, _ => rfl
  | n + 1, i => by
    have := hV i
    simp only [mo_near]
    rw [if_neg (by omega)]
    exact mo_near_done hb hV n (i + 1)
theorem near_low {V : Int → Int} {s r : Int} (hV : ∀ i, 0 ≤ V i) (h1 : ∀ i, 0 ≤ i → i < 16 → (bs r i = true ↔ bs s i = true ∧ V i = 0)) : ∀ (n : Nat) (i b l : Int), 0 ≤ i → i + n ≤ 16 → (b = -2 ∨ 1 ≤ l) → (∃ y, i ≤ y ∧ y < i + n ∧ bs r y = true) → mo_near V s n i b l = fc_low r n i
  | 0, i, b, l, _, _, _, h => by
    obtain ⟨y, a, c, _⟩ := h
    omega
  | n + 1, i, b, l, h0, hn, hl, h => by
    simp only [mo_near, fc_low]
    have e := h1 i h0 (by omega)
    by_cases hr : bs r i = true
    · have e2 := e.mp hr
      rw [if_pos hr, if_pos ⟨e2.1, by omega⟩, e2.2]
      exact mo_near_done (by omega) hV n (i + 1)
    · rw [if_neg hr]
      have hv := hV i
      have h' : ∃ y, i + 1 ≤ y ∧ y < i + 1 + n ∧ bs r y = true := by
        obtain ⟨y, a, c, d⟩ := h
        refine ⟨y, ?_, by omega, d⟩
        by_cases q : y = i
        · subst q; exact absurd d hr
        · omega
      by_cases hc : bs s i = true ∧ (b = -2 ∨ V i < l)
      · rw [if_pos hc]
        refine near_low hV h1 n (i + 1) i (V i) (by omega) (by omega) (Or.inr ?_) h'
        have : V i ≠ 0 := fun q => hr (e.mpr ⟨hc.1, q⟩)
        omega
      · rw [if_neg hc]
        exact near_low hV h1 n (i + 1) b l (by omega) (by omega) hl h'
