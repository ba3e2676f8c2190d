theorem pw_fr {w : Int} : ∀ (n : Nat) (M : bc_M), (∀ k j, ¬ ((k = 33 ∨ k = 38) ∧ j = 0) → pw w n M k j = M k j) ∧ (∀ f, f ≠ 11 → pw w n M 33 0 f = M 33 0 f) ∧ ∀ q, q < M 33 0 11 → pw w n M 38 0 q = M 38 0 q
  | 0, M => ⟨fun _ _ _ => rfl, fun _ _ => rfl, fun _ _ => rfl⟩
  | n + 1, M => by
    simp only [pw]
    have ih := pw_fr (w := w) n (bc_up (bc_up M 38 0 (M 33 0 11) (bx_and (bx_shr w (8 * n)) 255)) 33 0 11 (M 33 0 11 + 1))
    refine ⟨fun k j h => ?_, fun f h => ?_, fun q h => ?_⟩
    · rw [ih.1 k j h]
      have e1 := (Fr.up (P := fun k j => (k = 33 ∨ k = 38) ∧ j = 0) (M := M) (k := 38) (j := 0) (f := M 33 0 11) (v := bx_and (bx_shr w (8 * n)) 255) ⟨Or.inr rfl, rfl⟩) k j h
      have e2 := (Fr.up (P := fun k j => (k = 33 ∨ k = 38) ∧ j = 0) (M := bc_up M 38 0 (M 33 0 11) (bx_and (bx_shr w (8 * n)) 255)) (k := 33) (j := 0) (f := 11) (v := M 33 0 11 + 1) ⟨Or.inl rfl, rfl⟩) k j h
      rw [e2, e1]
    · rw [ih.2.1 f h, up_v, if_neg h, up_kne (by decide)]
    · rw [ih.2.2 q (by rw [up_v, if_pos rfl]; omega), up_kne (by decide), up_v, if_neg (by omega)]
/-- the texts agree over two memories: the class's and the model's -/
def TXo (M N : bc_M) : Prop := N 33 0 11 = M 1 0 1 ∧ 0 ≤ M 1 0 1 ∧ ∀ q, 0 ≤ q → q < M 1 0 1 → N 38 0 q = bx_and (M 2 0 q) 255
theorem TXo.w {w : Int} : ∀ (n : Nat) (M N : bc_M), TXo M N → TXo (aw w n M) (pw w n N)
  | 0, _, _, h => h
  | n + 1, M, N, h => by
    simp only [aw, pw]
    refine TXo.w n _ _ ⟨by rw [up_v, if_pos rfl, up_v, if_pos rfl, h.1], by rw [up_v, if_pos rfl]; have := h.2.1; omega, fun q a b => ?_⟩
    rw [up_v, if_pos rfl] at b
    rw [up_kne (by decide), up_v, up_kne (by decide), up_v, h.1]
    by_cases e : q = M 1 0 1
    · rw [if_pos e, if_pos e, bx_byte_255]
    · rw [if_neg e, if_neg e]; exact h.2.2 q a (by omega)
