theorem ssum_add {A B : Int → Int} : ∀ (n : Nat) (t : Int), ssum (fun u => A u + B u) n t = ssum A n t + ssum B n t
  | 0, _ => rfl
  | n + 1, t => by simp only [ssum]; rw [ssum_add n (t + 1)]; omega
/-- how many slots hold one of the times -/
theorem ssum_cnt {f : Int → Int} {N len c d : Int} {O : Int → Bool} (hm : ∀ q q', 0 ≤ q → q < q' → q' < N → f q < f q') (hf : ∀ q, 0 ≤ q → q < N → 0 ≤ f q ∧ f q < len) (hO : ∀ t, O t = true ↔ ∃ q, 0 ≤ q ∧ q < N ∧ t = f q) : ∀ (n : Nat) (t k : Int), 0 ≤ t → t + n = len → bef f N t k → ssum (fun u => if O u then c else d) n t = (N - k) * (c - d) + n * d
  | 0, t, k, h1, h2, h => by
    have hk : k = N := by
      apply Decidable.byContradiction
      intro hne
      have := h.2.2 k (by omega) (by have := h.1; omega)
      have := hf k (by have := h.1; omega) (by have := h.1; omega)
      omega
    subst hk
    simp only [ssum]
    rw [show k - k = 0 by omega]
    simp
  | n + 1, t, k, h1, h2, h => by
    simp only [ssum]
    have hn : ((n + 1 : Nat) : Int) * d = n * d + d := by rw [show ((n + 1 : Nat) : Int) = (n : Int) + 1 by omega, Int.add_mul, Int.one_mul]
    cases ho : O t
    · have h' := bef_no h (fun q => by rw [(hO t).mpr q] at ho; exact absurd ho (by decide))
      rw [ssum_cnt hm hf hO n (t + 1) k (by omega) (by omega) h', hn]
      simp only [Bool.false_eq_true, if_false]
      omega
    · obtain ⟨q, a, b, e⟩ := (hO t).mp ho
      obtain ⟨eq, h'⟩ := bef_yes hm h ⟨a, b⟩ e
      rw [ssum_cnt hm hf hO n (t + 1) (k + 1) (by omega) (by omega) h', hn]
      simp only [if_true]
      rw [show N - k = (N - (k + 1)) + 1 by omega, Int.add_mul (N - (k + 1)) 1, Int.one_mul]
      omega
