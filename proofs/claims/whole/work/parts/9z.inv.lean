/-! the invariant: a loaded carousel and a loaded model -/
theorem AG.le {f g : Int → Int} {n m : Int} (h : AG f g n) (hm : m ≤ n) : AG f g m := fun i a b => h i a (by omega)
theorem CE.c {M M' : bc_M} {x y cp pl : Int} {g g' : Int → Int} (h : CE M x cp pl g) (e12 : ∀ f, 0 ≤ f → f < 9 → M' 12 y f = M 12 x f) (e13 : M' 13 y = M 13 x) (e14 : M' 14 y = M 14 x) (eg : AG g g' 38) : CE M' y cp pl g' := by
  obtain ⟨⟨c0, c1⟩, ⟨c2, c3, c4, c5, c6, c7, c8⟩, c9⟩ := h
  have q0 := eg 0 (by decide) (by decide)
  have q1 := eg 1 (by decide) (by decide)
  have q2 := eg 2 (by decide) (by decide)
  have q3 := eg 3 (by decide) (by decide)
  have q4 := eg 4 (by decide) (by decide)
  have q5 := eg 5 (by decide) (by decide)
  unfold CE
  rw [e12 0 (by decide) (by decide), e12 1 (by decide) (by decide), e12 2 (by decide) (by decide), e12 3 (by decide) (by decide), e12 4 (by decide) (by decide), e12 5 (by decide) (by decide), e12 6 (by decide) (by decide), e12 7 (by decide) (by decide), e12 8 (by decide) (by decide), e13, e14, ← q0, ← q1, ← q2, ← q3, ← q4, ← q5]
  refine ⟨⟨c0, c1⟩, ⟨c2, c3, c4, c5, c6, c7, c8⟩, fun i a b => ?_⟩
  rw [← eg (6 + i) (by omega) (by omega), ← eg (22 + i) (by omega) (by omega)]
  exact c9 i a b
theorem QI.c {g g' : Int → Int} {ni n m : Int} (h : QI g ni n) (eg : AG g g' 38) (hm : n ≤ m) : QI g' ni m := by
  obtain ⟨a0, a1, a3, a4, a5, a6, a7, a8⟩ := h
  have q0 := eg 0 (by decide) (by decide)
  have q1 := eg 1 (by decide) (by decide)
  have q2 := eg 2 (by decide) (by decide)
  have q3 := eg 3 (by decide) (by decide)
  have q4 := eg 4 (by decide) (by decide)
  have q5 := eg 5 (by decide) (by decide)
  unfold QI
  rw [← q0, ← q1, ← q2, ← q3, ← q4, ← q5]
  refine ⟨by omega, by omega, by omega, by omega, a5, fun i a b => ?_, a7, fun x y x0 x1 y0 y1 bx b2 hn => ?_⟩
  · rw [← eg (6 + i) (by omega) (by omega), ← eg (22 + i) (by omega) (by omega)]
    have := a6 i a b
    omega
  · rw [← eg (22 + x) (by omega) (by omega), ← eg (22 + y) (by omega) (by omega)]
    exact a8 x y x0 x1 y0 y1 bx b2 hn
theorem RV.c {r r' cap pol cap' pol' : Int → Int} {nd ni nc n m : Int} (h : RV r nd ni nc cap pol n) (e : AG r r' 206) (ec : AG cap cap' 4) (ep : AG pol pol' 4) (hm : n ≤ m) : RV r' nd ni nc cap' pol' m := by
  obtain ⟨h1, h2, h3, h4⟩ := h
  have hnd := h1.1
  have hni := h1.2.1
  have e1 : AG (rDk r) (rDk r') ni := fun i a b => e (16 + i) (by omega) (by omega)
  have e2 : AG (rFr r) (rFr r') nd := fun i a b => e (48 + i) (by omega) (by omega)
  refine ⟨?_, fun i a b => ?_, h3, fun c a b => ?_⟩
  · have := h1.c e1 e2
    rw [e 52 (by decide) (by decide), e 53 (by decide) (by decide)] at this
    exact this
  · have := h2 i a b
    unfold rPop rBnd at this ⊢
    rw [← e (0 + i) (by omega) (by omega), ← e (32 + i) (by omega) (by omega)]
    exact this
  · have := h4 c a b
    rw [← ec c a (by omega), ← ep c a (by omega)]
    exact ⟨this.1, this.2.1, this.2.2.c (fun q x y => e (54 + 38 * c + q) (by omega) (by omega)) hm⟩
/-- the same state elsewhere -/
theorem SE.c {M M' : bc_M} {s t nd ni nc n : Int} {r r' cap pol cap' pol' : Int → Int} (h : SE M s r nd ni nc cap pol) (hr : RV r nd ni nc cap pol n) (he : stEq M' t M s) (e : AG r r' 206) (ec : AG cap cap' 4) (ep : AG pol pol' 4) : SE M' t r' nd ni nc cap' pol' := by
  obtain ⟨⟨e0, e1, e2, e3⟩, ⟨a7, a8, a9, a10⟩, h9, h5, hc⟩ := h
  obtain ⟨⟨q7, q8, q9, q10, q6⟩, q5, qc⟩ := he
  have hnd := hr.1.1
  have hni := hr.1.2.1
  have hnc := hr.2.2.1
  refine ⟨⟨?_, ?_, ?_, ?_⟩, ⟨fun i a b => ?_, fun i a b => ?_, fun i a b => ?_, fun i a b => ?_⟩, fun q a b => ?_, ?_, fun c a b => ?_⟩
  · rw [q6 0 (by decide) (by decide), e0, e 52 (by decide) (by decide)]
  · rw [q6 1 (by decide) (by decide), e1, e 53 (by decide) (by decide)]
  · rw [q6 2 (by decide) (by decide), e2]
  · rw [q6 3 (by decide) (by decide), e3]
  · rw [q7, a7 i a b]; exact e (48 + i) (by omega) (by omega)
  · rw [q8, a8 i a b]; exact e (0 + i) (by omega) (by omega)
  · rw [q9, a9 i a b]; exact e (16 + i) (by omega) (by omega)
  · rw [q10, a10 i a b]; exact e (32 + i) (by omega) (by omega)
  · rw [q9]; exact h9 q a b
  · rw [q5, h5]
  · have hq := qc c a (by rw [h5]; exact b)
    rw [← ec c a (by omega), ← ep c a (by omega)]
    exact (hc c a b).c hq.2.2 hq.1 hq.2.1 (fun q x y => e (54 + 38 * c + q) (by omega) (by omega))
