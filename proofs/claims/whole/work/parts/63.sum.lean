def tri (x : Int) : Int := x * (x + 1) / 2
theorem tri_s {x : Int} : tri (x + 1) = tri x + (x + 1) := by
  unfold tri
  have h : (x + 1) * (x + 1 + 1) = x * (x + 1) + (x + 1) * 2 := by
    rw [Int.mul_add (x + 1) (x + 1) 1, Int.mul_one, Int.add_mul x 1 (x + 1), Int.one_mul]
    omega
  rw [h, Int.add_mul_ediv_right _ _ (by decide)]
theorem sq_wg_add {f : Int → Int} : ∀ (n : Nat) (a s c p : Int), sq_wg f n a (s + c) p = sq_wg f n a s p + c
  | 0, _, _, _, _ => rfl
  | n + 1, a, s, c, p => by
    simp only [sq_wg]
    rw [show s + c + (f a - p) * (f a - p + 1) / 2 = s + (f a - p) * (f a - p + 1) / 2 + c by omega]
    exact sq_wg_add n (a + 1) _ c (f a)
/-- a sum over slots -/
def ssum (A : Int → Int) : Nat → Int → Int
  | 0, _ => 0
  | n + 1, t => A t + ssum A n (t + 1)
theorem nx_bef {f : Int → Int} {N len t k : Int} (h : bef f N t k) : sq_nx f t (f 0 + len) N.toNat 0 = if k < N then f k else f 0 + len := by
  obtain ⟨h1, h2, h3⟩ := h
  rcases sq_nx_s (f := f) (s := t) (z := f 0 + len) (N := N) N.toNat 0 (by omega) (by omega) (fun q a b => by omega) with ⟨q, a, b, e, g1, g2⟩ | ⟨e, g2⟩
  · have hqk : q = k := by
      rcases Int.lt_trichotomy q k with h | h | h
      · have := h2 q a h; omega
      · exact h
      · have := g2 k (by omega) h
        have := h3 k (by omega) (by omega)
        omega
    rw [e, hqk, if_pos (by omega)]
  · rw [e, if_neg]
    intro hk
    have := g2 k (by omega) hk
    have := h3 k (by omega) hk
    omega
section SUM
variable {f : Int → Int} {N len : Int}
/-- what the waits from slot t on come to, with k times before t -/
def wrem (f : Int → Int) (N len t k : Int) : Int := if k < N then sq_wg f (N - k - 1).toNat (k + 1) (tri (f k - t + 1)) (f k) + (tri (f 0 + len - f (N - 1)) - tri (f 0 + 1)) else tri (f 0 + len - t + 1) - tri (f 0 + 1)
theorem ssum_wait (hN : 1 ≤ N) (hm : ∀ q q', 0 ≤ q → q < q' → q' < N → f q < f q') (hf : ∀ q, 0 ≤ q → q < N → 0 ≤ f q ∧ f q < len) : ∀ (n : Nat) (t k : Int), 0 ≤ t → t + n = len → bef f N t k → ssum (fun t => sq_nx f t (f 0 + len) N.toNat 0 - t + 1) n t = wrem f N len t k
  | 0, t, k, h1, h2, h => by
    have hk : k = N := by
      apply Decidable.byContradiction
      intro hne
      have := h.2.2 k (by omega) (by have := h.1; omega)
      have := hf k (by have := h.1; omega) (by have := h.1; omega)
      omega
    subst hk
    unfold wrem
    rw [if_neg (by omega), show f 0 + len - t + 1 = f 0 + 1 by omega]
    simp only [ssum]
    omega
  | n + 1, t, k, h1, h2, h => by
    simp only [ssum]
    rw [nx_bef h]
    have hk := h.1
    by_cases hkN : k < N
    · rw [if_pos hkN]
      have hfk := h.2.2 k (by omega) hkN
      have hfr := hf k (by omega) hkN
      by_cases he : t = f k
      · have h' := (bef_yes hm h (q := k) ⟨by omega, hkN⟩ he).2
        rw [ssum_wait hN hm hf n (t + 1) (k + 1) (by omega) (by omega) h']
        unfold wrem
        rw [if_pos hkN, show f k - t + 1 = 1 by omega]
        by_cases hk1 : k + 1 < N
        · rw [if_pos hk1, show (N - k - 1).toNat = (N - (k + 1) - 1).toNat + 1 by omega]
          simp only [sq_wg]
          rw [show f (k + 1) - (t + 1) + 1 = f (k + 1) - f k by omega, show tri 1 + (f (k + 1) - f k) * (f (k + 1) - f k + 1) / 2 = tri (f (k + 1) - f k) + 1 by unfold tri; omega, sq_wg_add]
          omega
        · rw [if_neg hk1, show (N - k - 1).toNat = 0 by omega]
          simp only [sq_wg]
          rw [show N - 1 = k by omega, show f 0 + len - (t + 1) + 1 = f 0 + len - f k by omega, show tri 1 = 1 from rfl]
      · have h' : bef f N (t + 1) k := ⟨h.1, fun q a b => by have := h.2.1 q a b; omega, fun q a b => by
          by_cases hq : q = k
          · subst hq; omega
          · have := hm k q (by omega) (by omega) b; omega⟩
        rw [ssum_wait hN hm hf n (t + 1) k (by omega) (by omega) h']
        unfold wrem
        rw [if_pos hkN, if_pos hkN]
        have e := tri_s (x := f k - t)
        rw [e, sq_wg_add, show f k - (t + 1) + 1 = f k - t by omega]
        omega
    · rw [if_neg hkN]
      have h' : bef f N (t + 1) k := ⟨h.1, fun q a b => by have := h.2.1 q a b; omega, fun q a b => by omega⟩
      rw [ssum_wait hN hm hf n (t + 1) k (by omega) (by omega) h']
      unfold wrem
      rw [if_neg hkN, if_neg hkN]
      have e := tri_s (x := f 0 + len - t)
      rw [e, show f 0 + len - (t + 1) + 1 = f 0 + len - t by omega]
      omega
theorem ssum_all (hN : 1 ≤ N) (hm : ∀ q q', 0 ≤ q → q < q' → q' < N → f q < f q') (hf : ∀ q, 0 ≤ q → q < N → 0 ≤ f q ∧ f q < len) (hl : 0 ≤ len) : ssum (fun t => sq_nx f t (f 0 + len) N.toNat 0 - t + 1) len.toNat 0 = sq_wg f N.toNat 0 0 (f (max 0 (N - 1)) - len) := by
  rw [ssum_wait hN hm hf _ 0 0 (by omega) (by omega) ⟨by omega, fun q a b => by omega, fun q a b => (hf q a b).1⟩]
  unfold wrem
  rw [if_pos (by omega), show N.toNat = (N - 0 - 1).toNat + 1 by omega]
  simp only [sq_wg]
  rw [show max 0 (N - 1) = N - 1 by omega, show (0 : Int) + (f 0 - (f (N - 1) - len)) * (f 0 - (f (N - 1) - len) + 1) / 2 = tri (f 0 + len - f (N - 1)) by unfold tri; rw [show f 0 - (f (N - 1) - len) = f 0 + len - f (N - 1) by omega]; omega, show f 0 - 0 + 1 = f 0 + 1 by omega]
  have e1 := sq_wg_add (f := f) (N - 0 - 1).toNat 1 0 (tri (f 0 + 1)) (f 0)
  have e2 := sq_wg_add (f := f) (N - 0 - 1).toNat 1 0 (tri (f 0 + len - f (N - 1))) (f 0)
  rw [Int.zero_add] at e1 e2
  rw [show (0 : Int) + 1 = 1 from rfl, e1, e2]
  omega
end SUM
