theorem sum_dec {f : Int → Int} {w : Int} (hw : 0 ≤ w) : ∀ n : Nat, w < sp_sum f n → ∃ d : Int, 0 ≤ d ∧ d < n ∧ sp_sum f d.toNat ≤ w ∧ w < sp_sum f d.toNat + f d
  | 0, h => by simp only [sp_sum] at h; omega
  | n + 1, h => by
    by_cases hn : w < sp_sum f n
    · obtain ⟨d, a, b, c⟩ := sum_dec hw n hn
      exact ⟨d, a, by omega, c⟩
    · simp only [sp_sum] at h
      exact ⟨n, by omega, by omega, by rw [show ((n : Int)).toNat = n by omega]; omega, by rw [show ((n : Int)).toNat = n by omega]; omega⟩
theorem it_at_s {dk : Int → Int} {ni d : Int} : ∀ (n : Nat) (i p : Int), 0 ≤ i → i + n = ni → 0 ≤ p → it_at (sp_of dk ni d) n i p = -2 ∨ ((i ≤ it_at (sp_of dk ni d) n i p ∧ it_at (sp_of dk ni d) n i p < ni) ∧ dk (it_at (sp_of dk ni d) n i p) = d ∧ sp_cd dk d (it_at (sp_of dk ni d) n i p).toNat = p + sp_cd dk d i.toNat)
  | 0, i, p, _, _, _ => Or.inl rfl
  | n + 1, i, p, h1, h2, h3 => by
    have hs : sp_cd dk d (i + 1).toNat = sp_cd dk d i.toNat + if dk i = d then 1 else 0 := by
      rw [show (i + 1).toNat = i.toNat + 1 by omega]
      simp only [sp_cd]
      rw [show ((i.toNat : Nat) : Int) = i by omega]
    simp only [it_at]
    rw [sp_of_bs h1]
    by_cases hd : dk i = d
    · rw [if_pos (decide_eq_true ⟨by omega, hd⟩)]
      rw [if_pos hd] at hs
      by_cases hp : p = 0
      · rw [if_pos hp]
        exact Or.inr ⟨by omega, hd, by omega⟩
      · rw [if_neg hp]
        rcases it_at_s (dk := dk) (ni := ni) (d := d) n (i + 1) (p - 1) (by omega) (by omega) (by omega) with h | ⟨h, h', h''⟩
        · exact Or.inl h
        · exact Or.inr ⟨by omega, h', by omega⟩
    · rw [if_neg (by rw [decide_eq_false (fun q => hd q.2)]; decide)]
      rw [if_neg hd] at hs
      rcases it_at_s (dk := dk) (ni := ni) (d := d) n (i + 1) p (by omega) (by omega) h3 with h | ⟨h, h', h''⟩
      · exact Or.inl h
      · exact Or.inr ⟨by omega, h', by omega⟩
theorem sp_cd_le {dk : Int → Int} {d : Int} : ∀ (n m : Nat), n ≤ m → sp_cd dk d n ≤ sp_cd dk d m
  | n, 0, h => by rw [show n = 0 by omega]; omega
  | n, m + 1, h => by
    by_cases hn : n = m + 1
    · subst hn; omega
    · have := sp_cd_le (dk := dk) (d := d) n m (by omega)
      simp only [sp_cd]
      split <;> omega
theorem it_at_e {dk : Int → Int} {ni d j : Int} (hj : dk j = d) (hjn : j < ni) : ∀ (n : Nat) (i p : Int), 0 ≤ i → i + n = ni → i ≤ j → sp_cd dk d j.toNat = p + sp_cd dk d i.toNat → it_at (sp_of dk ni d) n i p = j
  | 0, i, p, _, _, _, _ => by omega
  | n + 1, i, p, h1, h2, h3, h4 => by
    have hs : sp_cd dk d (i + 1).toNat = sp_cd dk d i.toNat + if dk i = d then 1 else 0 := by
      rw [show (i + 1).toNat = i.toNat + 1 by omega]
      simp only [sp_cd]
      rw [show ((i.toNat : Nat) : Int) = i by omega]
    simp only [it_at]
    rw [sp_of_bs h1]
    by_cases hd : dk i = d
    · rw [if_pos (decide_eq_true ⟨by omega, hd⟩)]
      rw [if_pos hd] at hs
      by_cases hij : i = j
      · subst hij
        rw [if_pos (by omega)]
      · have := sp_cd_le (dk := dk) (d := d) (i + 1).toNat j.toNat (by omega)
        rw [if_neg (by omega)]
        exact it_at_e hj hjn n (i + 1) (p - 1) (by omega) (by omega) (by omega) (by omega)
    · rw [if_neg (by rw [decide_eq_false (fun q => hd q.2)]; decide)]
      rw [if_neg hd] at hs
      have hij : i ≠ j := fun q => hd (by rw [q]; exact hj)
      exact it_at_e hj hjn n (i + 1) p (by omega) (by omega) (by omega) (by omega)
section LAYS
variable {dk fr : Int → Int} {nd ni sg ln : Int}
theorem sp_it_s (h : SV dk fr nd ni sg ln) {d p : Int} (hp : 0 ≤ p) : sp_it dk ni d p = -2 ∨ ((0 ≤ sp_it dk ni d p ∧ sp_it dk ni d p < ni) ∧ dk (sp_it dk ni d p) = d ∧ sp_cd dk d (sp_it dk ni d p).toNat = p) := by
  have := it_at_s (dk := dk) (ni := ni) (d := d) ni.toNat 0 p (by omega) (by have := h.2.1; omega) hp
  rw [show sp_cd dk d (0 : Int).toNat = 0 from rfl, Int.add_zero] at this
  exact this
theorem sp_it_e (h : SV dk fr nd ni sg ln) {j : Int} (hj : 0 ≤ j ∧ j < ni) : sp_it dk ni (dk j) (sp_cd dk (dk j) j.toNat) = j :=
  it_at_e rfl hj.2 ni.toNat 0 _ (by omega) (by have := h.2.1; omega) hj.1 (by rw [show sp_cd dk (dk j) (0 : Int).toNat = 0 from rfl, Int.add_zero])
/-- every datum is in a chunk -/
theorem D_dec (h : SV dk fr nd ni sg ln) {y : Int} (hy : 0 ≤ y ∧ y < sp_S dk fr nd ni) : ∃ r d q : Int, (0 ≤ r ∧ r < sp_N dk fr nd ni) ∧ (0 ≤ d ∧ d < nd) ∧ (0 ≤ q ∧ q < sp_z dk fr nd ni d) ∧ y = r * sp_RL dk fr nd ni + sp_o dk fr nd ni d + q := by
  have hNR := sp_NRL h
  have hRL := sp_RL_rng h
  have hnd := h.1
  have hRp : 0 < sp_RL dk fr nd ni := by
    apply Decidable.byContradiction
    intro h0
    have h1 : sp_RL dk fr nd ni = 0 := by omega
    rw [h1, Int.mul_zero] at hNR
    omega
  have e1 := Int.emod_lt_of_pos y hRp
  have e2 := Int.emod_nonneg y (show sp_RL dk fr nd ni ≠ 0 by omega)
  have e3 := Int.ediv_mul_add_emod y (sp_RL dk fr nd ni)
  have e4 : y / sp_RL dk fr nd ni < sp_N dk fr nd ni := ediv_lt hRp (by omega)
  have e5 : 0 ≤ y / sp_RL dk fr nd ni := Int.ediv_nonneg hy.1 (by omega)
  obtain ⟨d, a, b, c1, c2⟩ := sum_dec (f := sp_z dk fr nd ni) e2 nd.toNat e1
  exact ⟨y / sp_RL dk fr nd ni, d, y % sp_RL dk fr nd ni - sp_o dk fr nd ni d, ⟨e5, e4⟩, ⟨a, by omega⟩, ⟨by unfold sp_o; omega, by unfold sp_o; omega⟩, by omega⟩
theorem ck_rng (h : SV dk fr nd ni sg ln) {r d q : Int} (hr : 0 ≤ r ∧ r < sp_N dk fr nd ni) (hd : 0 ≤ d ∧ d < nd) (hq : 0 ≤ q ∧ q < sp_z dk fr nd ni d) : 0 ≤ r % (sp_N dk fr nd ni / fr d) * sp_z dk fr nd ni d + q := by
  have hm : 0 < sp_m dk ni d := by
    apply Decidable.byContradiction
    intro h0
    have : sp_z dk fr nd ni d = 0 := by unfold sp_z sp_sz; rw [if_neg (fun q => h0 q.1)]
    omega
  have hc := sp_cnt1 h hd hm
  have := Int.mul_nonneg (Int.emod_nonneg r (show sp_N dk fr nd ni / fr d ≠ 0 by omega)) (show 0 ≤ sp_z dk fr nd ni d by omega)
  omega
theorem D_rng (h : SV dk fr nd ni sg ln) {g : Int → Int} (hg : DI dk fr nd ni g (sp_N dk fr nd ni) 0) {y : Int} (hy : 0 ≤ y ∧ y < sp_S dk fr nd ni) : -2 ≤ g y ∧ g y < ni := by
  obtain ⟨r, d, q, hr, hd, hq, rfl⟩ := D_dec h hy
  rw [hg r d q hr.1 hd.1 hd.2 (Or.inl hr.2) hq.1 hq.2]
  have hni := h.2.1
  unfold sp_ck
  rcases sp_it_s h (ck_rng h hr hd hq) with e | e
  · rw [e]; omega
  · omega
/-- where an item lies among the data -/
theorem D_item (h : SV dk fr nd ni sg ln) {g : Int → Int} (hg : DI dk fr nd ni g (sp_N dk fr nd ni) 0) {y i : Int} (hy : 0 ≤ y ∧ y < sp_S dk fr nd ni) (hi : 0 ≤ i ∧ i < ni) : g y = i ↔ ∃ q, 0 ≤ q ∧ q < fr (dk i) ∧ y = sp_dx dk fr nd ni i q := by
  have hrp := sp_rp h hi
  have hdi := h.2.2.2.2.2 i hi.1 hi.2
  simp only at hrp
  obtain ⟨⟨g1, g2, g3⟩, ⟨k1, k2, k3⟩, ⟨g4, g5⟩, ⟨g6, g7⟩, g8⟩ := hrp
  constructor
  · intro he
    obtain ⟨r, d, q, hr, hd, hq, hy2⟩ := D_dec h hy
    subst hy2
    rw [hg r d q hr.1 hd.1 hd.2 (Or.inl hr.2) hq.1 hq.2] at he
    unfold sp_ck at he
    have hp := ck_rng h hr hd hq
    rcases sp_it_s h (d := d) hp with e | ⟨e1, e2, e3⟩
    · rw [e] at he; omega
    · rw [he] at e2 e3
      subst e2
      rw [e3] at g4 g5 g6 g7
      generalize hc : sp_N dk fr nd ni / fr (dk i) = c at *
      generalize hz : sp_z dk fr nd ni (dk i) = z at *
      have m1 := Int.emod_nonneg r (show c ≠ 0 by omega)
      have m2 := Int.emod_lt_of_pos r (show 0 < c by omega)
      have m3 := Int.ediv_mul_add_emod r c
      have d1 : (r % c * z + q) / z = r % c := by
        rw [Int.add_comm, Int.add_mul_ediv_right _ _ (show z ≠ 0 by omega), Int.ediv_eq_zero_of_lt hq.1 hq.2, Int.zero_add]
      have d2 : (r % c * z + q) % z = q := by
        rw [Int.add_comm, Int.add_mul_emod_self_right, Int.emod_eq_of_lt hq.1 hq.2]
      refine ⟨r / c, Int.ediv_nonneg hr.1 (by omega), ediv_lt (by omega) (by omega), ?_⟩
      unfold sp_dx sp_x
      rw [e3, hz, hc, d1, d2, show r % c + r / c * c = r by omega]
      omega
  · rintro ⟨q, h1, h2, rfl⟩
    have hx := hg (sp_cd dk (dk i) i.toNat / sp_z dk fr nd ni (dk i) + q * (sp_N dk fr nd ni / fr (dk i))) (dk i) (sp_cd dk (dk i) i.toNat % sp_z dk fr nd ni (dk i))
    generalize hc : sp_N dk fr nd ni / fr (dk i) = c at *
    generalize hz : sp_z dk fr nd ni (dk i) = z at *
    have n1 : 0 ≤ q * c := Int.mul_nonneg h1 (by omega)
    have n2 : q * c ≤ (fr (dk i) - 1) * c := Int.mul_le_mul_of_nonneg_right (by omega) (by omega)
    rw [Int.sub_mul, Int.one_mul, g3] at n2
    have hx2 := hx (by omega) hdi.1 hdi.2 (Or.inl (by omega)) g6 g7
    unfold sp_dx sp_x
    rw [hz, hc, ← Int.add_assoc, hx2]
    unfold sp_ck
    rw [hc, hz, Int.add_mul_emod_self_right, Int.emod_eq_of_lt g4 g5, Int.ediv_mul_add_emod]
    exact sp_it_e h hi
end LAYS
section PPS
variable {dk fr : Int → Int} {nd ni sg ln : Int} {D p : Int → Int}
theorem P_rng (h : SV dk fr nd ni sg ln) (hg : DI dk fr nd ni D (sp_N dk fr nd ni) 0) (hP : PP D p sg (sp_S dk fr nd ni) ln (sp_S dk fr nd ni + sg * ln) sg (sp_S dk fr nd ni)) {t : Int} (ht : 0 ≤ t ∧ t < sp_S dk fr nd ni + sg * ln) : -10 ≤ p t ∧ p t ≤ 100 := by
  have hni := h.2.1
  have hl := h.2.2.2.1
  rcases hP.2.2 t ht.1 ht.2 with ⟨y, a, b, rfl⟩ | ⟨q, v, a, b, c, d, rfl⟩
  · rw [(hP.1 y a b).2]
    have := D_rng h hg ⟨a, b⟩
    omega
  · rw [(hP.2.1 q v a b c d).2]
    omega
/-- where an item lies in the program -/
theorem P_item (h : SV dk fr nd ni sg ln) (hg : DI dk fr nd ni D (sp_N dk fr nd ni) 0) (hP : PP D p sg (sp_S dk fr nd ni) ln (sp_S dk fr nd ni + sg * ln) sg (sp_S dk fr nd ni)) {t i : Int} (ht : 0 ≤ t ∧ t < sp_S dk fr nd ni + sg * ln) (hi : 0 ≤ i ∧ i < ni) : p t = i ↔ ∃ q, 0 ≤ q ∧ q < fr (dk i) ∧ t = sp_T dk fr nd ni sg ln i q := by
  constructor
  · intro he
    rcases hP.2.2 t ht.1 ht.2 with ⟨y, a, b, rfl⟩ | ⟨q, v, a, b, c, d, rfl⟩
    · rw [(hP.1 y a b).2] at he
      obtain ⟨q, h1, h2, rfl⟩ := (D_item h hg ⟨a, b⟩ hi).mp he
      exact ⟨q, h1, h2, rfl⟩
    · rw [(hP.2.1 q v a b c d).2] at he
      omega
  · rintro ⟨q, h1, h2, rfl⟩
    have hx := sp_dx_rng h hi ⟨h1, h2⟩
    unfold sp_T
    rw [(hP.1 _ hx.1 hx.2).2]
    exact (D_item h hg hx hi).mpr ⟨q, h1, h2, rfl⟩
/-- where segments start in the program -/
theorem P_seg (h : SV dk fr nd ni sg ln) (hg : DI dk fr nd ni D (sp_N dk fr nd ni) 0) (hP : PP D p sg (sp_S dk fr nd ni) ln (sp_S dk fr nd ni + sg * ln) sg (sp_S dk fr nd ni)) {t : Int} (ht : 0 ≤ t ∧ t < sp_S dk fr nd ni + sg * ln) : p t = -3 ↔ ∃ k, 0 ≤ k ∧ k < sg ∧ t = k * sp_S dk fr nd ni / sg + k * ln := by
  have hl := h.2.2.2.1
  constructor
  · intro he
    rcases hP.2.2 t ht.1 ht.2 with ⟨y, a, b, rfl⟩ | ⟨q, v, a, b, c, d, rfl⟩
    · rw [(hP.1 y a b).2] at he
      have := D_rng h hg ⟨a, b⟩
      omega
    · rw [(hP.2.1 q v a b c d).2] at he
      refine ⟨q, a, b, ?_⟩
      unfold sg_x
      omega
  · rintro ⟨k, h1, h2, rfl⟩
    have := (hP.2.1 k 0 h1 h2 (by omega) (by omega)).2
    unfold sg_x at this
    rw [Int.add_zero] at this
    rw [this]
    rfl
end PPS
