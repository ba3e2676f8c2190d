theorem bv_255 : ∀ i, i < 32 → (255#32).getLsbD i = decide (i < 8) := by decide +kernel
theorem bx_byte_255 (x : Int) : bx_and (bx_byte x) 255 = bx_and x 255 := by
  unfold bx_and bx_byte
  rw [Int32.ofInt_toInt]
  have h : (Int32.ofInt x).toInt8.toInt32 &&& Int32.ofInt 255 = Int32.ofInt x &&& Int32.ofInt 255 := by
    apply Int32.toBitVec_inj.mp
    generalize Int32.ofInt x = a
    show (a.toBitVec.signExtend 8).signExtend 32 &&& 255#32 = a.toBitVec &&& 255#32
    apply BitVec.eq_of_getLsbD_eq
    intro i hi
    rw [BitVec.getLsbD_and, BitVec.getLsbD_and, bv_255 i hi]
    by_cases h8 : i < 8
    · rw [BitVec.getLsbD_signExtend, BitVec.getLsbD_signExtend]
      simp [hi, h8]
    · simp [h8]
  rw [h]
/-- the texts agree -/
def TX (M : bc_M) : Prop := (M 33 0 11 = M 1 0 1 ∧ 0 ≤ M 1 0 1 ∧ M 1 0 1 ≤ 500) ∧ ∀ q, 0 ≤ q → q < M 1 0 1 → M 38 0 q = bx_and (M 2 0 q) 255
theorem TX.bc {M : bc_M} (h : TX M) : BC M (M 38 0) (M 1 0 1) ∧ ∀ q, 0 ≤ q → q < M 33 0 11 → 0 ≤ M 38 0 q ∧ M 38 0 q ≤ 255 := by
  refine ⟨⟨fun q a b => ?_, h.1.2⟩, fun q a b => ?_⟩
  · rw [h.2 q a b]; exact ⟨rfl, bx_and255 _⟩
  · rw [h.2 q a (by have := h.1.1; omega)]; exact bx_and255 _
/-- a word more, in the class and in the model -/
theorem aw_fr {w : Int} : ∀ (n : Nat) (M : bc_M), (∀ k j, ¬ ((k = 1 ∨ k = 2) ∧ j = 0) → aw w n M k j = M k j) ∧ (∀ f, f ≠ 1 → aw w n M 1 0 f = M 1 0 f) ∧ ∀ q, q < M 1 0 1 → aw w n M 2 0 q = M 2 0 q
  | 0, M => ⟨fun _ _ _ => rfl, fun _ _ => rfl, fun _ _ => rfl⟩
  | n + 1, M => by
    simp only [aw]
    have ih := aw_fr (w := w) n (bc_up (bc_up M 2 0 (M 1 0 1) (bx_byte (bx_shr w (8 * n)))) 1 0 1 (M 1 0 1 + 1))
    refine ⟨fun k j h => ?_, fun f h => ?_, fun q h => ?_⟩
    · rw [ih.1 k j h]
      have e1 := (Fr.up (P := fun k j => (k = 1 ∨ k = 2) ∧ j = 0) (M := M) (k := 2) (j := 0) (f := M 1 0 1) (v := bx_byte (bx_shr w (8 * n))) ⟨Or.inr rfl, rfl⟩) k j h
      have e2 := (Fr.up (P := fun k j => (k = 1 ∨ k = 2) ∧ j = 0) (M := bc_up M 2 0 (M 1 0 1) (bx_byte (bx_shr w (8 * n)))) (k := 1) (j := 0) (f := 1) (v := M 1 0 1 + 1) ⟨Or.inl rfl, rfl⟩) k j h
      rw [e2, e1]
    · rw [ih.2.1 f h, up_v, if_neg h, up_kne (by decide)]
    · rw [ih.2.2 q (by rw [up_v, if_pos rfl]; omega), up_kne (by decide), up_v, if_neg (by omega)]
