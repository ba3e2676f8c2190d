/-- the next slot with a property, d slots ahead -/
def nxt (O : Int → Prop) (len s d : Int) : Prop := 0 ≤ d ∧ O ((s + d) % len) ∧ ∀ e, 0 ≤ e → e < d → ¬ O ((s + e) % len)
theorem nxt_u {O : Int → Prop} {len s a b : Int} (h1 : nxt O len s a) (h2 : nxt O len s b) : a = b := by
  rcases Int.lt_trichotomy a b with h | h | h
  · exact absurd h1.2.1 (h2.2.2 a h1.1 h)
  · exact h
  · exact absurd h2.2.1 (h1.2.2 b h2.1 h)
theorem fd_s {p : Int → Int} {x len : Int} (hl : 1 ≤ len) : ∀ n : Nat, (n : Int) ≤ 2 * len → (∃ d : Int, 0 ≤ d ∧ d < (n : Int) ∧ p ((2 * len - n + d) % len) = x) → nxt (fun t => p t = x) len (2 * len - n) (fd p x len n)
  | 0, _, ⟨d, a, b, _⟩ => by omega
  | n + 1, hn, ⟨d, a, b, c⟩ => by
    simp only [fd]
    by_cases h0 : p ((2 * len - (n + 1)) % len) = x
    · rw [if_pos h0]
      refine ⟨by omega, ?_, fun e a b => by omega⟩
      rw [show (2 * len - ((n + 1 : Nat) : Int) + 0) = 2 * len - (n + 1) by omega]
      exact h0
    · rw [if_neg h0]
      have hd : d ≠ 0 := by
        intro q
        subst q
        rw [show (2 * len - ((n + 1 : Nat) : Int) + 0) = 2 * len - (n + 1) by omega] at c
        exact h0 c
      have ih := fd_s (p := p) (x := x) hl n (by omega) ⟨d - 1, by omega, by omega, by rw [show 2 * len - (n : Int) + (d - 1) = 2 * len - ((n + 1 : Nat) : Int) + d by omega]; exact c⟩
      obtain ⟨i1, i2, i3⟩ := ih
      refine ⟨by omega, ?_, fun e a b => ?_⟩
      · rw [show 2 * len - ((n + 1 : Nat) : Int) + (fd p x len n + 1) = 2 * len - (n : Int) + fd p x len n by omega]
        exact i2
      · by_cases he : e = 0
        · subst he
          rw [show (2 * len - ((n + 1 : Nat) : Int) + 0) = 2 * len - (n + 1) by omega]
          exact h0
        · rw [show 2 * len - ((n + 1 : Nat) : Int) + e = 2 * len - (n : Int) + (e - 1) by omega]
          exact i3 (e - 1) (by omega) (by omega)
theorem far_s {p : Int → Int} {x len s y : Int} (hl : 1 ≤ len) (hs : 0 ≤ s ∧ s < len) (hy : 0 ≤ y ∧ y < len) (hp : p y = x) : nxt (fun t => p t = x) len s (sp_far p x len s) := by
  have h := fd_s (p := p) (x := x) hl (2 * len - s).toNat (by omega) ⟨len + y - s, by omega, by omega, by
    rw [show 2 * len - (((2 * len - s).toNat : Nat) : Int) + (len + y - s) = y + len * 1 by omega, Int.add_mul_emod_self_left, Int.emod_eq_of_lt hy.1 hy.2]
    exact hp⟩
  rw [show 2 * len - (((2 * len - s).toNat : Nat) : Int) = s by omega] at h
  exact h
theorem sq_nx_s {f : Int → Int} {s z : Int} {N : Int} : ∀ (n : Nat) (a : Int), 0 ≤ a → a + n = N → (∀ q, 0 ≤ q → q < a → f q < s) → ((∃ q, 0 ≤ q ∧ q < N ∧ sq_nx f s z n a = f q ∧ s ≤ f q ∧ ∀ q', 0 ≤ q' → q' < q → f q' < s) ∨ (sq_nx f s z n a = z ∧ ∀ q, 0 ≤ q → q < N → f q < s))
  | 0, a, h1, h2, h3 => Or.inr ⟨rfl, fun q x y => h3 q x (by omega)⟩
  | n + 1, a, h1, h2, h3 => by
    simp only [sq_nx]
    by_cases h : s ≤ f a
    · rw [if_pos h]
      exact Or.inl ⟨a, h1, by omega, rfl, h, h3⟩
    · rw [if_neg h]
      exact sq_nx_s n (a + 1) (by omega) (by omega) (fun q x y => by
        by_cases hq : q = a
        · subst hq; omega
        · exact h3 q x (by omega))
/-- what a scan of ordered times finds is the next slot -/
theorem nx_s {f : Int → Int} {N len s : Int} (hl : 1 ≤ len) (hs : 0 ≤ s ∧ s < len) (hN : 1 ≤ N) (hf : ∀ q, 0 ≤ q → q < N → 0 ≤ f q ∧ f q < len) (hm : ∀ q q', 0 ≤ q → q < q' → q' < N → f q < f q') : nxt (fun t => ∃ q, 0 ≤ q ∧ q < N ∧ t = f q) len s (sq_nx f s (f 0 + len) N.toNat 0 - s) := by
  have hle : ∀ q q', 0 ≤ q → q ≤ q' → q' < N → f q ≤ f q' := fun q q' a b c => by
    by_cases h : q = q'
    · rw [h]; omega
    · have := hm q q' a (by omega) c; omega
  have hmod : ∀ u, 0 ≤ u → u < len → u % len = u := fun u a b => Int.emod_eq_of_lt a b
  have hmod2 : ∀ u, len ≤ u → u < 2 * len → u % len = u - len := fun u a b => by
    have := Int.add_mul_emod_self_left (u - len) len 1
    rw [Int.mul_one, Int.sub_add_cancel] at this
    rw [this]
    exact Int.emod_eq_of_lt (by omega) (by omega)
  rcases sq_nx_s (f := f) (s := s) (z := f 0 + len) (N := N) N.toNat 0 (by omega) (by omega) (fun q a b => by omega) with ⟨q, a, b, e, h1, h2⟩ | ⟨e, h2⟩
  · rw [e]
    have hq := hf q a b
    refine ⟨by omega, ⟨q, a, b, ?_⟩, fun u x y => ?_⟩
    · rw [show s + (f q - s) = f q by omega, hmod _ hq.1 hq.2]
    · rintro ⟨q', a', b', e'⟩
      rw [hmod _ (by omega) (by omega)] at e'
      by_cases hqq : q' < q
      · have := h2 q' a' hqq; omega
      · have := hle q q' a (by omega) b'; omega
  · rw [e]
    have h0 := hf 0 (by omega) (by omega)
    refine ⟨by omega, ⟨0, by omega, by omega, ?_⟩, fun u x y => ?_⟩
    · rw [show s + (f 0 + len - s) = f 0 + len by omega, hmod2 _ (by omega) (by omega)]
      omega
    · rintro ⟨q', a', b', e'⟩
      by_cases hu : s + u < len
      · rw [hmod _ (by omega) hu] at e'
        have := h2 q' a' b'
        omega
      · rw [hmod2 _ (by omega) (by omega)] at e'
        have := hle 0 q' (by omega) a' b'
        omega
theorem nxt_iff {O O' : Int → Prop} {len s d : Int} (hl : 1 ≤ len) (h : ∀ t, 0 ≤ t → t < len → (O t ↔ O' t)) (hn : nxt O len s d) : nxt O' len s d := by
  have hm : ∀ u : Int, 0 ≤ u % len ∧ u % len < len := fun u => ⟨Int.emod_nonneg _ (by omega), Int.emod_lt_of_pos _ (by omega)⟩
  exact ⟨hn.1, (h _ (hm _).1 (hm _).2).mp hn.2.1, fun e a b q => hn.2.2 e a b ((h _ (hm _).1 (hm _).2).mpr q)⟩
section ORD
variable {dk fr : Int → Int} {nd ni sg ln : Int}
theorem sp_tm_mono {sg S ln x y : Int} (hg : 0 ≤ sg) (hS : 0 < S) (hl : 0 ≤ ln) (h : x < y) : sp_tm sg S ln x < sp_tm sg S ln y := by
  unfold sp_tm
  split
  · exact h
  · rename_i h0
    have e1 : ((x + 1) * sg - 1) / S ≤ ((y + 1) * sg - 1) / S := by
      apply Int.ediv_le_ediv hS
      have : (x + 1) * sg ≤ (y + 1) * sg := Int.mul_le_mul_of_nonneg_right (by omega) hg
      omega
    have e2 : (((x + 1) * sg - 1) / S + 1) * ln ≤ (((y + 1) * sg - 1) / S + 1) * ln := Int.mul_le_mul_of_nonneg_right (by omega) hl
    omega
theorem sp_dx_mono (h : SV dk fr nd ni sg ln) {i q q' : Int} (hi : 0 ≤ i ∧ i < ni) (hq : q < q') : sp_dx dk fr nd ni i q < sp_dx dk fr nd ni i q' := by
  have hrp := sp_rp h hi
  simp only at hrp
  obtain ⟨⟨g1, g2, g3⟩, _, _, _, g8⟩ := hrp
  have hd := h.2.2.2.2.2 i hi.1 hi.2
  have ho := sp_o_rng h (d := dk i) (by have := h.1; omega)
  unfold sp_dx sp_x
  generalize sp_N dk fr nd ni / fr (dk i) = c at *
  generalize sp_RL dk fr nd ni = R at *
  have e1 : (q + 1) * c ≤ q' * c := Int.mul_le_mul_of_nonneg_right (by omega) (by omega)
  rw [Int.add_mul, Int.one_mul] at e1
  generalize sp_cd dk (dk i) i.toNat / sp_z dk fr nd ni (dk i) = w at *
  have e2 : (w + q * c + 1) * R ≤ (w + q' * c) * R := Int.mul_le_mul_of_nonneg_right (by omega) (by omega)
  rw [Int.add_mul, Int.one_mul] at e2
  omega
theorem sp_T_mono (h : SV dk fr nd ni sg ln) {i q q' : Int} (hi : 0 ≤ i ∧ i < ni) (hq : q < q') : sp_T dk fr nd ni sg ln i q < sp_T dk fr nd ni sg ln i q' := by
  unfold sp_T
  have := sp_S_rng h
  exact sp_tm_mono h.2.2.1.1 (by omega) (by have := h.2.2.2.1; omega) (sp_dx_mono h hi hq)
theorem sp_st_mono (h : SV dk fr nd ni sg ln) {k k' : Int} (h0 : 0 ≤ k) (hk : k < k') (hs : k' < sg) : k * sp_S dk fr nd ni / sg + k * ln < k' * sp_S dk fr nd ni / sg + k' * ln := by
  have hS := sp_S_rng h
  have e1 : k * sp_S dk fr nd ni / sg ≤ k' * sp_S dk fr nd ni / sg := Int.ediv_le_ediv (by omega) (Int.mul_le_mul_of_nonneg_right (by omega) (by omega))
  have e2 : k * ln < k' * ln := Int.mul_lt_mul_of_pos_right hk (by have := h.2.2.2.1; omega)
  omega
end ORD
