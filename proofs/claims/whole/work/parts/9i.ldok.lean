/-! what a text read without an error says is in order -/
theorem p_n_v {b : Int → Int} {len lo hi : Int} {σ : bl_s} (h : (p_n b len lo hi σ).1 = 0) : lo ≤ σ.2.2.2.2 ∧ σ.2.2.2.2 ≤ hi := by
  unfold p_n at h
  split at h
  · split at h
    · assumption
    · exact absurd h (p_f_ne (by decide))
  · exact absurd h (p_f_ne (by decide))
theorem dkL_v {b : Int → Int} {len : Int} : ∀ (n : Nat) (c : Int) (σ : bl_s) (D : Int → Int), 0 ≤ c → c + n = 5 → c ≤ 4 → (∀ x, 0 ≤ x → x < c → 1 ≤ D (2 + x) ∧ D (2 + x) ≤ 6) → (dkL b len n c σ D).1.1 = 0 → 1 ≤ (dkL b len n c σ D).2.1 ∧ (∀ x, 0 ≤ x → x < (dkL b len n c σ D).2.1 → 1 ≤ (dkL b len n c σ D).2.2 (2 + x) ∧ (dkL b len n c σ D).2.2 (2 + x) ≤ 6) ∧ ∀ q, q < 2 → (dkL b len n c σ D).2.2 q = D q
  | 0, c, σ, D, h1, h2, h3, hD, he => by omega
  | n + 1, c, σ, D, h1, h2, h3, hD, he => by
    simp only [dkL] at he ⊢
    by_cases hw : p_w b 1 σ = true
    · rw [if_pos hw] at he ⊢
      by_cases h4 : c = 4
      · rw [if_pos h4] at he; exact absurd he (p_f_ne (by decide))
      · rw [if_neg h4] at he ⊢
        have hv := p_n_v (p_s_0 (dkL_0 _ _ _ _ he))
        have ih := dkL_v n (c + 1) _ _ (by omega) (by omega) (by omega) (fun x a b9 => ?_) he
        · refine ⟨ih.1, ih.2.1, fun q hq => ?_⟩
          rw [ih.2.2 q hq, u_ne (by omega)]
        · by_cases e : x = c
          · subst e; rw [u_at]; exact hv
          · rw [u_ne (by omega)]; exact hD x a (by omega)
    · rw [if_neg hw] at he ⊢
      by_cases h0 : c = 0
      · have he' : (if c = 0 then p_f 1 σ else σ).1 = 0 := he
        rw [if_pos h0] at he'
        exact absurd he' (p_f_ne (by decide))
      · exact ⟨(show 1 ≤ c by omega), hD, fun q _ => rfl⟩
theorem itL_v {b : Int → Int} {len nd : Int} : ∀ (n : Nat) (c : Int) (σ : bl_s) (D : Int → Int), 0 ≤ c → c + n = 17 → c ≤ 16 → (∀ x, 0 ≤ x → x < c → (0 ≤ D (6 + 3 * x) ∧ D (6 + 3 * x) ≤ 99) ∧ (0 ≤ D (6 + 3 * x + 1) ∧ D (6 + 3 * x + 1) ≤ nd - 1) ∧ 0 ≤ D (6 + 3 * x + 2) ∧ D (6 + 3 * x + 2) ≤ 999) → (itL b len nd n c σ D).1.1 = 0 → 1 ≤ (itL b len nd n c σ D).2.1 ∧ (∀ x, 0 ≤ x → x < (itL b len nd n c σ D).2.1 → (0 ≤ (itL b len nd n c σ D).2.2 (6 + 3 * x) ∧ (itL b len nd n c σ D).2.2 (6 + 3 * x) ≤ 99) ∧ (0 ≤ (itL b len nd n c σ D).2.2 (6 + 3 * x + 1) ∧ (itL b len nd n c σ D).2.2 (6 + 3 * x + 1) ≤ nd - 1) ∧ 0 ≤ (itL b len nd n c σ D).2.2 (6 + 3 * x + 2) ∧ (itL b len nd n c σ D).2.2 (6 + 3 * x + 2) ≤ 999) ∧ ∀ q, q < 6 → (itL b len nd n c σ D).2.2 q = D q
  | 0, c, σ, D, h1, h2, h3, hD, he => by omega
  | n + 1, c, σ, D, h1, h2, h3, hD, he => by
    simp only [itL] at he ⊢
    by_cases hw : p_w b 2 σ = true
    · rw [if_pos hw] at he ⊢
      by_cases h4 : c = 16
      · rw [if_pos h4] at he; exact absurd he (p_f_ne (by decide))
      · rw [if_neg h4] at he ⊢
        have z1 := p_s_0 (itL_0 _ _ _ _ he)
        have v3 := p_n_v z1
        have v2 := p_n_v (p_n_0 z1)
        have v1 := p_n_v (p_n_0 (p_n_0 z1))
        have ih := itL_v n (c + 1) _ _ (by omega) (by omega) (by omega) (fun x a b9 => ?_) he
        · refine ⟨ih.1, ih.2.1, fun q hq => ?_⟩
          rw [ih.2.2 q hq, u_ne (by omega), u_ne (by omega), u_ne (by omega)]
        · by_cases e : x = c
          · subst e
            rw [u_ne (show 6 + 3 * x ≠ 6 + 3 * x + 2 by omega), u_ne (show 6 + 3 * x ≠ 6 + 3 * x + 1 by omega), u_at, u_ne (show 6 + 3 * x + 1 ≠ 6 + 3 * x + 2 by omega), u_at, u_at]
            exact ⟨v1, v2, v3⟩
          · rw [u_ne (show 6 + 3 * x ≠ 6 + 3 * c + 2 by omega), u_ne (show 6 + 3 * x ≠ 6 + 3 * c + 1 by omega), u_ne (show 6 + 3 * x ≠ 6 + 3 * c by omega), u_ne (show 6 + 3 * x + 1 ≠ 6 + 3 * c + 2 by omega), u_ne (show 6 + 3 * x + 1 ≠ 6 + 3 * c + 1 by omega), u_ne (show 6 + 3 * x + 1 ≠ 6 + 3 * c by omega), u_ne (show 6 + 3 * x + 2 ≠ 6 + 3 * c + 2 by omega), u_ne (show 6 + 3 * x + 2 ≠ 6 + 3 * c + 1 by omega), u_ne (show 6 + 3 * x + 2 ≠ 6 + 3 * c by omega)]
            exact hD x a (by omega)
    · rw [if_neg hw] at he ⊢
      by_cases h0 : c = 0
      · have he' : (if c = 0 then p_f 1 σ else σ).1 = 0 := he
        rw [if_pos h0] at he'
        exact absurd he' (p_f_ne (by decide))
      · exact ⟨(show 1 ≤ c by omega), hD, fun q _ => rfl⟩
theorem p_po_r {b : Int → Int} {len : Int} {σ : bl_s} (h : (p_pa b len σ).1 = 0) : 0 ≤ p_po b σ ∧ p_po b σ ≤ 2 := by
  constructor
  · apply Decidable.byContradiction
    intro h8
    unfold p_pa at h
    rw [if_pos (by omega), p_a_e (p_f_ne (by decide))] at h
    exact absurd h (p_f_ne (by decide))
  · unfold p_po
    split
    · decide
    · split
      · decide
      · split <;> decide
theorem clL_v {b : Int → Int} {len : Int} : ∀ (n : Nat) (c : Int) (σ : bl_s) (D : Int → Int), 0 ≤ c → c + n = 5 → c ≤ 4 → (∀ x, 0 ≤ x → x < c → (0 ≤ D (54 + 2 * x) ∧ D (54 + 2 * x) ≤ 4) ∧ 0 ≤ D (54 + 2 * x + 1) ∧ D (54 + 2 * x + 1) ≤ 2) → (clL b len n c σ D).1.1 = 0 → (∀ x, 0 ≤ x → x < (clL b len n c σ D).2.1 → (0 ≤ (clL b len n c σ D).2.2 (54 + 2 * x) ∧ (clL b len n c σ D).2.2 (54 + 2 * x) ≤ 4) ∧ 0 ≤ (clL b len n c σ D).2.2 (54 + 2 * x + 1) ∧ (clL b len n c σ D).2.2 (54 + 2 * x + 1) ≤ 2) ∧ ∀ q, q < 54 → (clL b len n c σ D).2.2 q = D q
  | 0, c, σ, D, h1, h2, h3, hD, he => by omega
  | n + 1, c, σ, D, h1, h2, h3, hD, he => by
    simp only [clL] at he ⊢
    by_cases hw : p_w b 3 σ = true
    · rw [if_pos hw] at he ⊢
      by_cases h4 : c = 4
      · rw [if_pos h4] at he; exact absurd he (p_f_ne (by decide))
      · rw [if_neg h4] at he ⊢
        have z1 := p_s_0 (clL_0 _ _ _ _ he)
        have v2 := p_po_r z1
        have v1 := p_n_v (p_pa_0 z1)
        have ih := clL_v n (c + 1) _ _ (by omega) (by omega) (by omega) (fun x a b9 => ?_) he
        · refine ⟨ih.1, fun q hq => ?_⟩
          rw [ih.2 q hq, u_ne (by omega), u_ne (by omega)]
        · by_cases e : x = c
          · subst e
            rw [u_ne (show 54 + 2 * x ≠ 54 + 2 * x + 1 by omega), u_at, u_at]
            exact ⟨v1, v2⟩
          · rw [u_ne (show 54 + 2 * x ≠ 54 + 2 * c + 1 by omega), u_ne (show 54 + 2 * x ≠ 54 + 2 * c by omega), u_ne (show 54 + 2 * x + 1 ≠ 54 + 2 * c + 1 by omega), u_ne (show 54 + 2 * x + 1 ≠ 54 + 2 * c by omega)]
            exact hD x a (by omega)
    · rw [if_neg hw] at he ⊢
      exact ⟨hD, fun q _ => rfl⟩
/-- a text's settings in order -/
def LO (D : Int → Int) (nd ni nc : Int) : Prop := (1 ≤ nd ∧ nd ≤ 4) ∧ (1 ≤ ni ∧ ni ≤ 16) ∧ (0 ≤ nc ∧ nc ≤ 4) ∧ (0 ≤ D 0 ∧ D 0 ≤ 8) ∧ (1 ≤ D 1 ∧ D 1 ≤ 4) ∧ (∀ x, 0 ≤ x → x < nd → 1 ≤ D (2 + x) ∧ D (2 + x) ≤ 6) ∧ (∀ x, 0 ≤ x → x < ni → (0 ≤ D (6 + 3 * x) ∧ D (6 + 3 * x) ≤ 99) ∧ (0 ≤ D (6 + 3 * x + 1) ∧ D (6 + 3 * x + 1) < nd) ∧ 0 ≤ D (6 + 3 * x + 2) ∧ D (6 + 3 * x + 2) ≤ 999) ∧ ∀ x, 0 ≤ x → x < nc → (0 ≤ D (54 + 2 * x) ∧ D (54 + 2 * x) ≤ 4) ∧ 0 ≤ D (54 + 2 * x + 1) ∧ D (54 + 2 * x + 1) ≤ 2
theorem ld_ok {b D : Int → Int} {len : Int} (h : (ldE b len D).1 = 0) : LO (ldC b len D).2.2 (ldD b len D).2.1 (ldI b len D).2.1 (ldC b len D).2.1 := by
  have z5 := ldE_0 h
  have z4 : (ldI b len D).1.1 = 0 := clL_0 _ _ _ _ z5
  have z3 : (ldD b len D).1.1 = 0 := itL_0 _ _ _ _ z4
  have z2 : (ld1 b len).1 = 0 := dkL_0 _ _ _ _ z3
  have z1 := p_s_0 z2
  have v1 := p_n_v z1
  have v0 := p_n_v (p_n_0 z1)
  have n3 := dkL_n (b := b) (len := len) 5 0 (ld1 b len) (ixD b len (0, lx b len 0) D) (by omega) (by omega)
  have n4 := itL_n (b := b) (len := len) (nd := (ldD b len D).2.1) 17 0 (ldD b len D).1 (ldD b len D).2.2 (by omega) (by omega)
  have n5 := clL_n (b := b) (len := len) 5 0 (ldI b len D).1 (ldI b len D).2.2 (by omega) (by omega)
  have a3 := dkL_v (b := b) (len := len) 5 0 (ld1 b len) (ixD b len (0, lx b len 0) D) (by omega) (by omega) (by omega) (fun x a b9 => by omega) z3
  have a4 := itL_v (b := b) (len := len) (nd := (ldD b len D).2.1) 17 0 (ldD b len D).1 (ldD b len D).2.2 (by omega) (by omega) (by omega) (fun x a b9 => by omega) z4
  have a5 := clL_v (b := b) (len := len) 5 0 (ldI b len D).1 (ldI b len D).2.2 (by omega) (by omega) (by omega) (fun x a b9 => by omega) z5
  have e5 : ∀ q, q < 54 → (ldC b len D).2.2 q = (ldI b len D).2.2 q := a5.2
  have e4 : ∀ q, q < 6 → (ldI b len D).2.2 q = (ldD b len D).2.2 q := a4.2.2
  have e3 : ∀ q, q < 2 → (ldD b len D).2.2 q = ixD b len (0, lx b len 0) D q := a3.2.2
  have n3' : 0 ≤ (ldD b len D).2.1 ∧ (ldD b len D).2.1 ≤ 4 := n3
  have n4' : 0 ≤ (ldI b len D).2.1 ∧ (ldI b len D).2.1 ≤ 16 := n4
  refine ⟨⟨a3.1, n3.2⟩, ⟨a4.1, n4.2⟩, n5, ?_, ?_, fun x a b9 => ?_, fun x a b9 => ?_, a5.1⟩
  · rw [e5 0 (by decide), e4 0 (by decide), e3 0 (by decide)]
    unfold ixD
    rw [u_ne (by decide), u_at]
    exact v0
  · rw [e5 1 (by decide), e4 1 (by decide), e3 1 (by decide)]
    unfold ixD
    rw [u_at]
    exact v1
  · rw [e5 (2 + x) (by omega), e4 (2 + x) (by omega)]
    exact a3.2.1 x a b9
  · rw [e5 (6 + 3 * x) (by omega), e5 (6 + 3 * x + 1) (by omega), e5 (6 + 3 * x + 2) (by omega)]
    have h9 : (0 ≤ (ldI b len D).2.2 (6 + 3 * x) ∧ (ldI b len D).2.2 (6 + 3 * x) ≤ 99) ∧ (0 ≤ (ldI b len D).2.2 (6 + 3 * x + 1) ∧ (ldI b len D).2.2 (6 + 3 * x + 1) ≤ (ldD b len D).2.1 - 1) ∧ 0 ≤ (ldI b len D).2.2 (6 + 3 * x + 2) ∧ (ldI b len D).2.2 (6 + 3 * x + 2) ≤ 999 := a4.2.1 x a b9
    exact ⟨h9.1, ⟨h9.2.1.1, by have := h9.2.1.2; omega⟩, h9.2.2⟩
