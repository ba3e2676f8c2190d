/-! the history: the class's ring and the model's rows -/
def CU (M : bc_M) (n : Int) : Prop := SE M 1 (M 34 0) (M 33 0 5) (M 33 0 6) (M 33 0 7) (M 36 0) (M 37 0) ∧ RV (M 34 0) (M 33 0 5) (M 33 0 6) (M 33 0 7) (M 36 0) (M 37 0) n
def HS (M : bc_M) (n : Int) : Prop := (0 ≤ M 15 0 1 ∧ M 15 0 1 < 10) ∧ (M 15 0 0 = M 33 0 2 ∧ 0 ≤ M 33 0 2 ∧ M 33 0 2 ≤ 10) ∧ ∀ q, 0 ≤ q → q < M 33 0 2 → SE M (2 + (M 15 0 1 - 1 - q) % 10) (fun x => M 35 0 (206 * (M 33 0 2 - 1 - q) + x)) (M 33 0 5) (M 33 0 6) (M 33 0 7) (M 36 0) (M 37 0) ∧ RV (fun x => M 35 0 (206 * (M 33 0 2 - 1 - q) + x)) (M 33 0 5) (M 33 0 6) (M 33 0 7) (M 36 0) (M 37 0) n
theorem stEq.l {M M1 M' : bc_M} {a b : Int} (h : stEq M1 a M b) (hn : 0 ≤ M 5 b 1 ∧ M 5 b 1 ≤ 4) (e : ∀ k j, STP a k j → M' k j = M1 k j) : stEq M' a M b := by
  obtain ⟨⟨q7, q8, q9, q10, q6⟩, q5, qc⟩ := h
  have e5 : ∀ k, (k = 5 ∨ k = 6 ∨ k = 7 ∨ k = 8 ∨ k = 9 ∨ k = 10) → M' k a = M1 k a := fun k hk => e k a (Or.inl ⟨hk, rfl⟩)
  refine ⟨⟨by rw [e5 7 (by omega)]; exact q7, by rw [e5 8 (by omega)]; exact q8, by rw [e5 9 (by omega)]; exact q9, by rw [e5 10 (by omega)]; exact q10, fun f x y => by rw [e5 6 (by omega)]; exact q6 f x y⟩, by rw [e5 5 (by omega)]; exact q5, fun c x y => ?_⟩
  have hq := qc c x y
  have e12 : ∀ k, (k = 12 ∨ k = 13 ∨ k = 14) → M' k (4 * a + c) = M1 k (4 * a + c) := fun k hk => e k _ (Or.inr ⟨hk, by omega, by omega⟩)
  exact ⟨by rw [e12 13 (by omega)]; exact hq.1, by rw [e12 14 (by omega)]; exact hq.2.1, fun f x y => by rw [e12 12 (by omega)]; exact hq.2.2 f x y⟩
theorem stEq.rf {M M' : bc_M} {a : Int} (hn : 0 ≤ M 5 a 1 ∧ M 5 a 1 ≤ 4) (e : ∀ k j, STP a k j → M' k j = M k j) : stEq M' a M a := stEq.l (M1 := M) ⟨⟨rfl, rfl, rfl, rfl, fun _ _ _ => rfl⟩, rfl, fun _ _ _ => ⟨rfl, rfl, fun _ _ _ => rfl⟩⟩ hn e
/-- what stays of the model beside rows and past -/
def MK (M M' : bc_M) : Prop := M' 33 0 5 = M 33 0 5 ∧ M' 33 0 6 = M 33 0 6 ∧ M' 33 0 7 = M 33 0 7 ∧ M' 36 0 = M 36 0 ∧ M' 37 0 = M 37 0
theorem SE.nc {M : bc_M} {s nd ni nc n : Int} {r cap pol : Int → Int} (h : SE M s r nd ni nc cap pol) (hr : RV r nd ni nc cap pol n) : 0 ≤ M 5 s 1 ∧ M 5 s 1 ≤ 4 := by
  rw [h.2.2.2.1]; exact hr.2.2.1
/-- both remember -/
theorem HS.rem {M M1 M' : bc_M} {n m : Int} (h : HS M n) (hc : CU M n) (hR : REM M M1) (eS : ∀ a, 2 ≤ a → a ≤ 11 → ∀ k j, STP a k j → M' k j = M1 k j) (e15 : M' 15 0 = M1 15 0) (e35 : M' 35 0 = cpF (mrS M) (M 34 0) (206 * mrA M) 206) (e2 : M' 33 0 2 = mrA M + 1) (eK : MK M M') (hm : n ≤ m) : HS M' m := by
  obtain ⟨h1, h2, h3⟩ := h
  obtain ⟨hF, hE, r1, r0⟩ := hR
  obtain ⟨k5, k6, k7, k36, k37⟩ := eK
  have hA : mrA M = (if M 33 0 2 = 10 then 9 else M 33 0 2) := rfl
  have hnx : M' 15 0 1 = (if M 15 0 1 + 1 < 10 then M 15 0 1 + 1 else 0) := by rw [e15]; exact r1
  have hA2 : 0 ≤ mrA M ∧ mrA M ≤ 9 ∧ (M 33 0 2 < 10 → mrA M = M 33 0 2) ∧ (M 33 0 2 = 10 → mrA M = 9) := by
    rw [hA]
    split <;> omega
  unfold HS
  rw [k5, k6, k7, k36, k37, e2, e35]
  refine ⟨by rw [hnx]; split <;> omega, ⟨by rw [e15, r0, h2.1]; omega, by omega, by omega⟩, fun q a b => ?_⟩
  by_cases hq : q = 0
  · subst hq
    have hx : (M' 15 0 1 - 1 - 0) % 10 = M 15 0 1 := by
      rw [hnx]
      split <;> omega
    have hag : AG (M 34 0) (fun x => cpF (mrS M) (M 34 0) (206 * mrA M) 206 (206 * (mrA M + 1 - 1 - 0) + x)) 206 := fun x y z => by
      show _ = cpF (mrS M) (M 34 0) (206 * mrA M) 206 (206 * (mrA M + 1 - 1 - 0) + x)
      unfold cpF
      rw [if_pos (by omega)]
      congr 1
      omega
    rw [hx]
    have hst : stEq M' (2 + M 15 0 1) M 1 := hE.l (hc.1.nc hc.2) (fun k j hk => eS (2 + M 15 0 1) (by omega) (by omega) k j hk)
    exact ⟨hc.1.c hc.2 hst hag AG.rf AG.rf, hc.2.c hag AG.rf AG.rf hm⟩
  · have h4 := h3 (q - 1) (by omega) (by omega)
    have hx : (M' 15 0 1 - 1 - q) % 10 = (M 15 0 1 - 1 - (q - 1)) % 10 := by
      rw [hnx]
      split <;> omega
    have hne : (M 15 0 1 - 1 - (q - 1)) % 10 ≠ M 15 0 1 := by omega
    have hr9 : 0 ≤ (M 15 0 1 - 1 - (q - 1)) % 10 ∧ (M 15 0 1 - 1 - (q - 1)) % 10 < 10 := by omega
    have hag : AG (fun x => M 35 0 (206 * (M 33 0 2 - 1 - (q - 1)) + x)) (fun x => cpF (mrS M) (M 34 0) (206 * mrA M) 206 (206 * (mrA M + 1 - 1 - q) + x)) 206 := fun x y z => by
      show M 35 0 (206 * (M 33 0 2 - 1 - (q - 1)) + x) = cpF (mrS M) (M 34 0) (206 * mrA M) 206 (206 * (mrA M + 1 - 1 - q) + x)
      have e : cpF (mrS M) (M 34 0) (206 * mrA M) 206 (206 * (mrA M + 1 - 1 - q) + x) = mrS M (206 * (mrA M + 1 - 1 - q) + x) := by
        unfold cpF
        rw [if_neg (by omega)]
      rw [e]
      unfold mrS
      by_cases h10 : M 33 0 2 = 10
      · rw [if_pos h10]
        unfold cpF
        rw [if_pos (by omega)]
        simp only
        congr 1
        omega
      · rw [if_neg h10]
        congr 1
        omega
    rw [hx]
    have hst : stEq M' (2 + (M 15 0 1 - 1 - (q - 1)) % 10) M (2 + (M 15 0 1 - 1 - (q - 1)) % 10) := stEq.rf (h4.1.nc h4.2) (fun k j hk => by
      rw [eS _ (by omega) (by omega) k j hk]
      exact hF k j (by unfold remP STP; unfold STP at hk; omega))
    exact ⟨h4.1.c h4.2 hst hag AG.rf AG.rf, h4.2.c hag AG.rf AG.rf hm⟩
/-- nothing of it changes -/
theorem HS.q {M M' : bc_M} {n m : Int} (h : HS M n) (eS : ∀ a, 2 ≤ a → a ≤ 11 → ∀ k j, STP a k j → M' k j = M k j) (e15 : M' 15 0 = M 15 0) (e35 : M' 35 0 = M 35 0) (e2 : M' 33 0 2 = M 33 0 2) (eK : MK M M') (hm : n ≤ m) : HS M' m := by
  obtain ⟨h1, h2, h3⟩ := h
  obtain ⟨k5, k6, k7, k36, k37⟩ := eK
  unfold HS
  rw [k5, k6, k7, k36, k37, e2, e35, e15]
  refine ⟨h1, h2, fun q a b => ?_⟩
  have h4 := h3 q a b
  have hst : stEq M' (2 + (M 15 0 1 - 1 - q) % 10) M (2 + (M 15 0 1 - 1 - q) % 10) := stEq.rf (h4.1.nc h4.2) (fun k j hk => eS _ (by omega) (by omega) k j hk)
  exact ⟨h4.1.c h4.2 hst AG.rf AG.rf AG.rf, h4.2.c AG.rf AG.rf AG.rf hm⟩
theorem CU.q {M M' : bc_M} {n m : Int} (h : CU M n) (eS : ∀ k j, STP 1 k j → M' k j = M k j) (e34 : AG (M 34 0) (M' 34 0) 206) (eK : MK M M') (hm : n ≤ m) : CU M' m := by
  obtain ⟨k5, k6, k7, k36, k37⟩ := eK
  unfold CU
  rw [k5, k6, k7, k36, k37]
  exact ⟨h.1.c h.2 (stEq.rf (h.1.nc h.2) eS) e34 AG.rf AG.rf, h.2.c e34 AG.rf AG.rf hm⟩
