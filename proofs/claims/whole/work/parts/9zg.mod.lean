/-! the calls that change something: what the model leaves, what the class leaves -/
theorem mrA4 {X : bc_M} {v : Int} : mrA (bc_up X 33 0 4 v) = mrA X := by
  have e : bc_up X 33 0 4 v 33 0 2 = X 33 0 2 := by rw [up_v, if_neg (by decide)]
  unfold mrA
  rw [e]
theorem mrS4 {X : bc_M} {v : Int} : mrS (bc_up X 33 0 4 v) = mrS X := by
  have e : bc_up X 33 0 4 v 33 0 2 = X 33 0 2 := by rw [up_v, if_neg (by decide)]
  have e5 : bc_up X 33 0 4 v 35 0 = X 35 0 := up_kne (by decide)
  unfold mrS
  rw [e, e5]
def MD (X M3 : bc_M) (r' : Int → Int) : Prop := Fr (fun k _ => k = 33 ∨ k = 34 ∨ k = 35 ∨ (40 ≤ k ∧ k ≤ 50)) X M3 ∧ (∀ f, f < 24 → f ≠ 2 → f ≠ 4 → M3 33 0 f = X 33 0 f) ∧ M3 33 0 4 = 0 ∧ M3 33 0 2 = mrA X + 1 ∧ M3 35 0 = cpF (mrS X) (X 34 0) (206 * mrA X) 206 ∧ M3 34 0 = r'
theorem MD.b {X : bc_M} : MD X (mrM (bc_up X 33 0 4 0)) (X 34 0) := by
  refine ⟨fun k j h => ?_, fun f _ b c => ?_, ?_, ?_, ?_, ?_⟩
  · rw [mrM_o (by omega) (by omega), up_kne (by omega)]
  · rw [mrM_f b, up_v, if_neg c]
  · rw [mrM_f (by decide), up_v, if_pos rfl]
  · unfold mrM
    rw [up_v, if_pos rfl, mrA4]
  · unfold mrM
    rw [up_kne (by decide), row_at, mrA4, mrS4, up_kne (by decide)]
  · rw [mrM_o (by decide) (by decide), up_kne (by decide)]
theorem MD.u {X Y : bc_M} {r : Int → Int} {p v : Int} (h : MD X Y r) : MD X (bc_up Y 34 0 p v) (bc_u r p v) := by
  obtain ⟨h1, h2, h3, h4, h5, h6⟩ := h
  refine ⟨h1.tr (Fr.up (Or.inr (Or.inl rfl))), fun f a b c => ?_, ?_, ?_, ?_, ?_⟩
  · rw [up_kne (by decide)]; exact h2 f a b c
  · rw [up_kne (by decide)]; exact h3
  · rw [up_kne (by decide)]; exact h4
  · rw [up_kne (by decide)]; exact h5
  · rw [up_at, h6]
theorem MD.g {X Y Z : bc_M} {r r' : Int → Int} (h : MD X Y r) (hF : Fr (fun k _ => k = 33 ∨ k = 34 ∨ (40 ≤ k ∧ k ≤ 50)) Y Z) (hf : ∀ f, f < 24 → Z 33 0 f = Y 33 0 f) (e : Z 34 0 = r') : MD X Z r' := by
  obtain ⟨h1, h2, h3, h4, h5, h6⟩ := h
  refine ⟨h1.tr (hF.mono (fun k j q => by omega)), fun f a b c => ?_, ?_, ?_, ?_, e⟩
  · rw [hf f a]; exact h2 f a b c
  · rw [hf 4 (by decide)]; exact h3
  · rw [hf 2 (by decide)]; exact h4
  · rw [hF 35 0 (by omega)]; exact h5
theorem MD.ly {X Y Z : bc_M} {r : Int → Int} (h : MD X Y r) (hL : LY Y Z) : MD X Z r := h.g (hL.1.mono (fun k j q => by unfold lyP at q; omega)) (fun f a => hL.2 f (by omega) (by omega)) (by rw [hL.1 34 0 (by unfold lyP; omega)]; exact h.2.2.2.2.2)
theorem MD.ld {X Y Z : bc_M} {r dk : Int → Int} (h : MD X Y r) (hL : LD Y Z dk) : MD X Z (cpF r dk 16 16) := h.g (hL.1.mono (fun k j q => by unfold lyP at q; omega)) (fun f a => hL.2.1 f (by omega) (by omega)) (by rw [hL.2.2, h.2.2.2.2.2])
theorem MD.rq {X Y Z : bc_M} {r q : Int → Int} {c rr : Int} (h : MD X Y r) (hL : RQ Y Z c q rr) : MD X Z (cpF r q (54 + 38 * c) 38) := h.g (hL.1.mono (fun k j q => by omega)) (fun f a => hL.2.1 f (by omega)) (by rw [hL.2.2.2, h.2.2.2.2.2])
theorem MD.lk {X Y Z : bc_M} {r dk : Int → Int} (h : MD X Y r) (hL : LK Y Z dk) : MD X Z (cpF r dk 16 16) := h.g (hL.1.mono (fun k j q => by omega)) (fun f _ => by rw [hL.1 33 0 (by omega)]) (by rw [hL.2, h.2.2.2.2.2])
theorem MD.row {X Y : bc_M} {r g : Int → Int} {k : Nat} (h : MD X Y r) (hk : 40 ≤ k ∧ k ≤ 50) : MD X (bc_row Y k 0 g) r := h.g (fun k' j q => by rw [row_kne (by omega)]) (fun f _ => by rw [row_kne (by omega)]) (by rw [row_kne (by omega)]; exact h.2.2.2.2.2)
theorem MD.fd {X Y : bc_M} {it : Int → Int} {s : Bool × Int × Int × (Int → Int) × (Int → Int)} (h : FD (bc_up X 33 0 4 0) Y it s) : MD X (mrM Y) (X 34 0) := by
  obtain ⟨h1, h2, _, _, _⟩ := h
  have e2 : Y 33 0 2 = X 33 0 2 := by rw [h2 2 (by decide), up_v, if_neg (by decide)]
  have e34 : Y 34 0 = X 34 0 := by rw [h1 34 0 (by unfold mqP; omega), up_kne (by decide)]
  have e35 : Y 35 0 = X 35 0 := by rw [h1 35 0 (by unfold mqP; omega), up_kne (by decide)]
  have eA : mrA Y = mrA X := by unfold mrA; rw [e2]
  have eS : mrS Y = mrS X := by unfold mrS; rw [e2, e35]
  refine ⟨fun k j q => ?_, fun f a b c => ?_, ?_, ?_, ?_, ?_⟩
  · rw [mrM_o (by omega) (by omega), h1 k j (by unfold mqP; omega), up_kne (by omega)]
  · rw [mrM_f b, h2 f (by omega), up_v, if_neg c]
  · rw [mrM_f (by decide), h2 4 (by decide), up_v, if_pos rfl]
  · unfold mrM
    rw [up_v, if_pos rfl, eA]
  · unfold mrM
    rw [up_kne (by decide), row_at, eA, eS, e34]
  · rw [mrM_o (by decide) (by decide), e34]
/-- what the class may touch beside its memory -/
def CHP : Nat → Int → Prop := fun k j => STP 1 k j ∨ bpP 0 k j ∨ IR k j
theorem REM.s1 {M M1 : bc_M} (h : REM M M1) (hx : 0 ≤ M 15 0 1 ∧ M 15 0 1 < 10) : ∀ k j, STP 1 k j → M1 k j = M k j := fun k j hk => h.1 k j (by unfold remP STP; unfold STP at hk; omega)
theorem REM.ot {M M1 : bc_M} (h : REM M M1) (hx : 0 ≤ M 15 0 1 ∧ M 15 0 1 < 10) : ∀ k j, (k = 1 ∨ k = 2 ∨ (17 ≤ k ∧ k ≤ 38) ∨ (k = 9 ∧ j = 0)) → M1 k j = M k j := fun k j hk => h.1 k j (by unfold remP STP; omega)
theorem KX0 {M M1 X : bc_M} {n : Int} (hK : KK M n) (h1 : M 1 0 3 = 1) (hR : REM M M1) (hX : Fr CHP M1 X) : (X 33 0 = M 33 0 ∧ X 34 0 = M 34 0 ∧ X 35 0 = M 35 0 ∧ X 36 0 = M 36 0 ∧ X 37 0 = M 37 0) ∧ (X 1 0 = M 1 0 ∧ X 2 0 = M 2 0 ∧ X 38 0 = M 38 0 ∧ X 9 0 = M 9 0) ∧ MS X (rDk (M 34 0)) (rFr (M 34 0)) (rPop (M 34 0)) (rBnd (M 34 0)) (M 33 0 5) (M 33 0 6) (M 34 0 52) (M 34 0 53) := by
  have hx := hK.2.2.2.2.2.2.2.2.2.1
  have e : ∀ k, (k = 33 ∨ k = 34 ∨ k = 35 ∨ k = 36 ∨ k = 37 ∨ k = 1 ∨ k = 2 ∨ k = 38 ∨ k = 9) → X k 0 = M k 0 := fun k hk => by
    rw [hX k 0 (by unfold CHP STP IR bpP; omega), hR.ot hx k 0 (by omega)]
  refine ⟨⟨e _ (by omega), e _ (by omega), e _ (by omega), e _ (by omega), e _ (by omega)⟩, ⟨e _ (by omega), e _ (by omega), e _ (by omega), e _ (by omega)⟩, ?_⟩
  have hm := hK.ms (hK.2.1.trans h1)
  unfold MS at hm ⊢
  rw [e 33 (by omega), e 34 (by omega)]
  exact hm
theorem KK.mod {M M1 X M3 : bc_M} {n m : Int} {r' : Int → Int} (hK : KK M n) (h1 : M 1 0 3 = 1) (hR : REM M M1) (hX : Fr CHP M1 X) (hD : MD X M3 r') (hS : SE X 1 r' (M 33 0 5) (M 33 0 6) (M 33 0 7) (M 36 0) (M 37 0)) (hV : RV r' (M 33 0 5) (M 33 0 6) (M 33 0 7) (M 36 0) (M 37 0) m) (hB : BS X 0 1) (hm : n ≤ m) : KK M3 m := by
  obtain ⟨⟨x33, x34, x35, x36, x37⟩, ⟨x1, x2, x38, x9⟩, _⟩ := KX0 hK h1 hR hX
  obtain ⟨d1, d2, d3, d4, d5, d6⟩ := hD
  have hx := hK.2.2.2.2.2.2.2.2.2.1
  obtain ⟨hc, hh, hb⟩ := hK.cu h1
  have e1 : M3 1 0 = M 1 0 := by rw [d1 1 0 (by omega), x1]
  have e2 : M3 2 0 = M 2 0 := by rw [d1 2 0 (by omega), x2]
  have e9 : M3 9 0 = M 9 0 := by rw [d1 9 0 (by omega), x9]
  have e36 : M3 36 0 = M 36 0 := by rw [d1 36 0 (by omega), x36]
  have e37 : M3 37 0 = M 37 0 := by rw [d1 37 0 (by omega), x37]
  have e38 : M3 38 0 = M 38 0 := by rw [d1 38 0 (by omega), x38]
  have f : ∀ f, f < 24 → f ≠ 2 → f ≠ 4 → M3 33 0 f = M 33 0 f := fun f a b c => by rw [d2 f a b c, x33]
  have f3 := f 3 (by decide) (by decide) (by decide)
  have f5 := f 5 (by decide) (by decide) (by decide)
  have f6 := f 6 (by decide) (by decide) (by decide)
  have f7 := f 7 (by decide) (by decide) (by decide)
  have f11 := f 11 (by decide) (by decide) (by decide)
  have f18 := f 18 (by decide) (by decide) (by decide)
  have eA : mrA X = mrA M := by unfold mrA; rw [x33]
  have eS : mrS X = mrS M := by unfold mrS; rw [x33, x35]
  have hA : 0 ≤ mrA M ∧ mrA M ≤ 9 := by
    have := hK.a2
    unfold mrA
    split <;> omega
  have e15 : M3 15 0 = M1 15 0 := by rw [d1 15 0 (by omega), hX 15 0 (by unfold CHP STP IR bpP; omega)]
  have hH : HS M3 m := hh.rem hc hR (fun a x y k j hk => by
    rw [d1 k j (by unfold STP at hk; omega), hX k j (by unfold STP at hk; unfold CHP STP IR bpP; omega)]) e15 (by rw [d5, eA, eS, x34]) (by rw [d4, eA]) ⟨f5, f6, f7, e36, e37⟩ hm
  unfold KK
  rw [f3, f5, f6, f7, f18, e1, e9, d4, eA]
  refine ⟨hK.1, hK.2.1, ?_, hK.2.2.2.1, hK.2.2.2.2.1, by omega, hK.a5, hK.a6, hK.a7, hH.1, by have := hK.n0; omega, hK.2.2.2.2.2.2.2.2.2.2.2.1, fun _ => ⟨?_, hH, ?_⟩⟩
  · unfold TX
    rw [f11, e1, e38, e2]
    exact hK.2.2.1
  · unfold CU
    rw [f5, f6, f7, e36, e37, d6]
    exact ⟨hS.c hV (stEq.rf (hS.nc hV) (fun k j hk => d1 k j (by unfold STP at hk; omega))) AG.rf AG.rf AG.rf, hV⟩
  · exact hB.cong (fun k hk => d1 k 1 (by omega)) (fun k hk => d1 k 0 (by omega)) (fun q _ _ => d1 21 q (by omega)) (by rw [hS.1.2.2.2]; exact hK.a6.2)
theorem SE.upd {M X : bc_M} {nd ni nc : Int} {r r' cap pol : Int → Int} (h : SE M 1 r nd ni nc cap pol) (hc4 : nc ≤ 4) (e5 : X 5 1 = M 5 1) (ec : ∀ k j, (k = 12 ∨ k = 13 ∨ k = 14) → 4 ≤ j → j < 8 → X k j = M k j) (er : ∀ q, 54 ≤ q → q < 206 → r' q = r q) (s6 : X 6 1 0 = r' 52 ∧ X 6 1 1 = r' 53 ∧ X 6 1 2 = nd ∧ X 6 1 3 = ni) (a7 : AG (X 7 1) (rFr r') nd) (a8 : AG (X 8 1) (rPop r') ni) (a9 : AG (X 9 1) (rDk r') ni) (a10 : AG (X 10 1) (rBnd r') ni) (h9 : ∀ q, 0 ≤ q → q < 16 → 0 ≤ X 9 1 q ∧ X 9 1 q < 10000) : SE X 1 r' nd ni nc cap pol := by
  refine ⟨s6, ⟨a7, a8, a9, a10⟩, h9, by rw [e5]; exact h.2.2.2.1, fun c a b => ?_⟩
  exact (h.2.2.2.2 c a b).c (fun f _ _ => by rw [ec 12 _ (by omega) (by omega) (by omega)]) (ec 13 _ (by omega) (by omega) (by omega)) (ec 14 _ (by omega) (by omega) (by omega)) (fun q x y => (er (54 + 38 * c + q) (by omega) (by omega)).symm)
theorem RV.upd {nd ni nc n m : Int} {r r' cap pol : Int → Int} (h : RV r nd ni nc cap pol n) (hm : n ≤ m) (hs : SV (rDk r') (rFr r') nd ni (r' 52) (r' 53)) (hp : ∀ i, 0 ≤ i → i < ni → (0 ≤ rPop r' i ∧ rPop r' i ≤ 99) ∧ 0 ≤ rBnd r' i ∧ rBnd r' i ≤ 999) (er : ∀ q, 54 ≤ q → q < 206 → r' q = r q) : RV r' nd ni nc cap pol m := by
  refine ⟨hs, hp, h.2.2.1, fun c a b => ?_⟩
  have h4 := h.2.2.2 c a b
  have hc := h.2.2.1
  exact ⟨h4.1, h4.2.1, h4.2.2.c (fun q x y => (er (54 + 38 * c + q) (by omega) (by omega)).symm) hm⟩
theorem mpm {X M3 : bc_M} {n b : Int} {r' : Int → Int} (hD : MD X M3 r') (fo : X 51 0 0 = w32 b) (hKK : KK M3 (n + 1)) : MPI n 0 (.inr (some (vI b))) M3 := ⟨b, rfl, hD.2.2.1, fun _ => by rw [hD.1 51 0 (by omega)]; exact fo, hKK⟩
theorem KX {M M1 Y : bc_M} {n w : Int} (hK : KK M n) (h1 : M 1 0 3 = 1) (hR : REM M M1) (hY : Fr CHP M1 Y) {C : bc_M → Prop} (k : ∀ X : bc_M, Fr CHP M1 X → (∀ k j, k ≠ 51 → X k j = Y k j) → X 51 0 0 = w → (X 33 0 = M 33 0 ∧ X 34 0 = M 34 0 ∧ X 35 0 = M 35 0 ∧ X 36 0 = M 36 0 ∧ X 37 0 = M 37 0) → MS X (rDk (M 34 0)) (rFr (M 34 0)) (rPop (M 34 0)) (rBnd (M 34 0)) (M 33 0 5) (M 33 0 6) (M 34 0 52) (M 34 0 53) → C X) : C (bc_up Y 51 0 0 w) := by
  have hX : Fr CHP M1 (bc_up Y 51 0 0 w) := hY.tr (Fr.up (by unfold CHP IR; omega))
  obtain ⟨e, _, hm⟩ := KX0 hK h1 hR hX
  exact k _ hX (fun k j hk => up_kne hk) (by rw [up_v, if_pos rfl]) e hm
