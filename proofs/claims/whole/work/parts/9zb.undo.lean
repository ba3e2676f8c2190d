/-- both go back -/
theorem HS.undo {M M1 M' : bc_M} {n : Int} (h : HS M n) (hpos : M 15 0 0 ≠ 0) (hR : RES M M1) (eS : ∀ a, 1 ≤ a → a ≤ 11 → ∀ k j, STP a k j → M' k j = M1 k j) (e15 : M' 15 0 = M1 15 0) (e34 : M' 34 0 = cpF (M 34 0) (fun q => M 35 0 (206 * (M 33 0 2 - 1) + q)) 0 206) (e35 : M' 35 0 = M 35 0) (e2 : M' 33 0 2 = M 33 0 2 - 1) (eK : MK M M') : CU M' n ∧ HS M' n := by
  obtain ⟨h1, h2, h3⟩ := h
  obtain ⟨hF, hE, r1, r0⟩ := hR
  obtain ⟨k5, k6, k7, k36, k37⟩ := eK
  have hnx : M' 15 0 1 = (if 0 < M 15 0 1 then M 15 0 1 - 1 else 9) := by rw [e15]; exact r1
  have h0 := h3 0 (by omega) (by omega)
  have hx0 : (M 15 0 1 - 1 - 0) % 10 = (if 0 < M 15 0 1 then M 15 0 1 - 1 else 9) := by split <;> omega
  constructor
  · unfold CU
    rw [k5, k6, k7, k36, k37, e34]
    rw [hx0] at h0
    have hag : AG (fun x => M 35 0 (206 * (M 33 0 2 - 1 - 0) + x)) (cpF (M 34 0) (fun q => M 35 0 (206 * (M 33 0 2 - 1) + q)) 0 206) 206 := fun x y z => by
      show M 35 0 (206 * (M 33 0 2 - 1 - 0) + x) = _
      unfold cpF
      rw [if_pos (by omega)]
      simp only
      congr 1
      omega
    have hst := hE.l (M' := M') (h0.1.nc h0.2) (fun k j hk => eS 1 (by omega) (by omega) k j hk)
    exact ⟨h0.1.c h0.2 hst hag AG.rf AG.rf, h0.2.c hag AG.rf AG.rf (Int.le_refl _)⟩
  · unfold HS
    rw [k5, k6, k7, k36, k37, e2, e35]
    refine ⟨by rw [hnx]; split <;> omega, ⟨by rw [e15, r0, h2.1], by omega, by omega⟩, fun q a b => ?_⟩
    have h4 := h3 (q + 1) (by omega) (by omega)
    have hx : (M' 15 0 1 - 1 - q) % 10 = (M 15 0 1 - 1 - (q + 1)) % 10 := by
      rw [hnx]
      split <;> omega
    have hag : AG (fun x => M 35 0 (206 * (M 33 0 2 - 1 - (q + 1)) + x)) (fun x => M 35 0 (206 * (M 33 0 2 - 1 - 1 - q) + x)) 206 := fun x y z => by
      show M 35 0 (206 * (M 33 0 2 - 1 - (q + 1)) + x) = M 35 0 (206 * (M 33 0 2 - 1 - 1 - q) + x)
      congr 1
      omega
    rw [hx]
    have hst : stEq M' (2 + (M 15 0 1 - 1 - (q + 1)) % 10) M (2 + (M 15 0 1 - 1 - (q + 1)) % 10) := stEq.rf (h4.1.nc h4.2) (fun k j hk => by
      rw [eS _ (by omega) (by omega) k j hk]
      exact hF k j (by unfold STP; unfold STP at hk; omega))
    exact ⟨h4.1.c h4.2 hst hag AG.rf AG.rf, h4.2.c hag AG.rf AG.rf (Int.le_refl _)⟩
