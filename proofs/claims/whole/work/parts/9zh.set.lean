/-! a step of the law: the setters -/
theorem AGu {f r : Int → Int} {b0 i v n : Int} (h : AG f (fun i => r (b0 + i)) n) : AG (bc_u f i v) (fun i' => bc_u r (b0 + i) v (b0 + i')) n := fun i' a b => by
  show bc_u f i v i' = bc_u r (b0 + i) v (b0 + i')
  by_cases e : i' = i
  · subst e; rw [u_at, u_at]
  · rw [u_ne e, u_ne (by omega)]; exact h i' a b
theorem AGo {f r : Int → Int} {b0 p v n : Int} (h : AG f (fun i => r (b0 + i)) n) (hp : p < b0 ∨ b0 + n ≤ p) : AG f (fun i' => bc_u r p v (b0 + i')) n := fun i' a b => by
  show f i' = bc_u r p v (b0 + i')
  rw [u_ne (by omega)]
  exact h i' a b
theorem RV.set {nd ni nc n m p v : Int} {r cap pol : Int → Int} (h : RV r nd ni nc cap pol n) (hm : n ≤ m) (hp : 0 ≤ p ∧ p < 54) (c0 : p < 16 → 0 ≤ v ∧ v ≤ 99) (c16 : 16 ≤ p → p < 32 → 0 ≤ v ∧ v < nd) (c32 : 32 ≤ p → p < 48 → 0 ≤ v ∧ v ≤ 999) (c48 : 48 ≤ p → p < 52 → 1 ≤ v ∧ v ≤ 6) (c52 : p = 52 → 0 ≤ v ∧ v ≤ 8) (c53 : p = 53 → 1 ≤ v ∧ v ≤ 4) : RV (bc_u r p v) nd ni nc cap pol m := by
  have h1 := h.1
  refine h.upd hm ⟨h1.1, h1.2.1, ?_, ?_, fun d a b => ?_, fun i a b => ?_⟩ (fun i a b => ?_) (fun q a b => u_ne (by omega))
  · by_cases e : 52 = p
    · subst e; rw [u_at]; exact c52 rfl
    · rw [u_ne e]; exact h1.2.2.1
  · by_cases e : 53 = p
    · subst e; rw [u_at]; exact c53 rfl
    · rw [u_ne e]; exact h1.2.2.2.1
  · show 1 ≤ bc_u r p v (48 + d) ∧ bc_u r p v (48 + d) ≤ 6
    by_cases e : 48 + d = p
    · rw [e, u_at]; exact c48 (by omega) (by have := h1.1; omega)
    · rw [u_ne e]; exact h1.2.2.2.2.1 d a b
  · show 0 ≤ bc_u r p v (16 + i) ∧ bc_u r p v (16 + i) < nd
    by_cases e : 16 + i = p
    · rw [e, u_at]; exact c16 (by omega) (by have := h1.2.1; omega)
    · rw [u_ne e]; exact h1.2.2.2.2.2 i a b
  · show (0 ≤ bc_u r p v (0 + i) ∧ bc_u r p v (0 + i) ≤ 99) ∧ 0 ≤ bc_u r p v (32 + i) ∧ bc_u r p v (32 + i) ≤ 999
    have h2 := h.2.1 i a b
    have hi := h1.2.1
    constructor
    · by_cases e : 0 + i = p
      · rw [e, u_at]; exact c0 (by omega)
      · rw [u_ne e]; exact h2.1
    · by_cases e : 32 + i = p
      · rw [e, u_at]; exact c32 (by omega) (by omega)
      · rw [u_ne e]; exact h2.2
theorem st_setPopularity {G : bc_G} {M : bc_M} {n i v : Int} (h_i : -2147483648 ≤ i ∧ i < 2147483648) (h_v : -2147483648 ≤ v ∧ v < 2147483648) (hK : KK M n) (hn : n ≤ 2800) : bc_Call G yX8_setPopularity cX8_setPopularity 4 (some .int) 9 3 [vR G 1 0, vI i, vI v] M (AFI csA (fun k M2 => bc_Call G yX9_setPopularity cX9_setPopularity 3 (some .int) 3 0 [vR G 33 0, vI i, vI v] M2 (MPI n k))) := by
  refine ct_setPopularity (n := n) (hl := hK.1) (hI := hK.li) (k1 := fun h0 => ?_) (k2 := fun h1 hb => ?_) (k3 := fun h1 hg M1 hR hL => ?_) h_i h_v
  · refine ⟨1, by simp [csA], ?_⟩
    have g0 : M 33 0 3 = 0 := hK.2.1.trans h0
    exact ct_mSetPopularity  (hl := Or.inl g0) (k1 := fun _ => mp1 hK) (k2 := fun q => absurd q (by omega)) (k3 := fun q => absurd q (by omega)) (ha := hK.a2) (hit := hK.a6) (hdi := hK.a5) (hcl := hK.a7)
  · refine ⟨2, by simp [csA], ?_⟩
    obtain ⟨q5, q6, q7⟩ := hK.eqs h1
    have g1 : M 33 0 3 = 1 := hK.2.1.trans h1
    (try simp only [q5, q6, q7] at hb)
    exact ct_mSetPopularity  (hl := Or.inr g1) (k1 := fun q => absurd q (by omega)) (k2 := fun _ _ => mp1 hK) (k3 := fun _ q => by exfalso; omega) (ha := hK.a2) (hit := hK.a6) (hdi := hK.a5) (hcl := hK.a7)
  · obtain ⟨q5, q6, q7⟩ := hK.eqs h1
    (try simp only [q5, q6, q7] at hg)
    obtain ⟨⟨hS, hV⟩, hH, hB⟩ := hK.cu h1
    have hx := hK.2.2.2.2.2.2.2.2.2.1
    have s1 := hR.s1 hx
    have hY : Fr CHP M1 (bc_up M1 8 1 i v) := Fr.up (Or.inl (Or.inl ⟨by decide, rfl⟩))
    refine ⟨_, rfl, KX hK h1 hR hY (C := fun M2 => bc_Call G yX9_setPopularity cX9_setPopularity 3 (some .int) 3 0 [vR G 33 0, vI i, vI v] M2 (MPI n 0)) (fun X hX eX fo hx5 ms => ?_)⟩
    obtain ⟨x33, x34, x35, x36, x37⟩ := hx5
    have l3 : X 33 0 3 = 1 := by rw [x33]; exact hK.2.1.trans h1
    have cl : ∀ k j, STP 1 k j → X k j = bc_up M1 8 1 i v k j := fun k j hk => by rw [eX k j (by unfold STP at hk; omega)]
    have co : ∀ k j, STP 1 k j → k ≠ 8 → X k j = M k j := fun k j hk h8 => by rw [cl k j hk, up_kne h8, s1 k j hk]
    have cv : X 8 1 = bc_u (M 8 1) i v := by rw [cl 8 1 (Or.inl ⟨by decide, rfl⟩), up_at, s1 8 1 (Or.inl ⟨by decide, rfl⟩)]
    have hD : MD X (bc_up (mrM (bc_up X 33 0 4 0)) 34 0 (0 + i) v) (bc_u (M 34 0) (0 + i) v) := by
      have := (MD.b (X := X)).u (p := 0 + i) (v := v)
      rw [x34] at this
      exact this
    have hnd := hK.a5
    have hni := hK.a6
    have c6 := co 6 1 (Or.inl ⟨by decide, rfl⟩) (by decide)
    have hS2 : SE X 1 (bc_u (M 34 0) (0 + i) v) (M 33 0 5) (M 33 0 6) (M 33 0 7) (M 36 0) (M 37 0) := hS.upd hK.a7.2 (co 5 1 (Or.inl ⟨by decide, rfl⟩) (by decide)) (fun k j hk a b => co k j (Or.inr ⟨hk, by omega, by omega⟩) (by omega)) (fun q a b => u_ne (by omega)) ⟨by rw [c6, u_ne (by omega)]; exact hS.1.1, by rw [c6, u_ne (by omega)]; exact hS.1.2.1, by rw [c6]; exact hS.1.2.2.1, by rw [c6]; exact hS.1.2.2.2⟩ (by rw [co 7 1 (Or.inl ⟨by decide, rfl⟩) (by decide)]; exact AGo hS.2.1.1 (by omega)) (by rw [cv]; exact AGu hS.2.1.2.1) (by rw [co 9 1 (Or.inl ⟨by decide, rfl⟩) (by decide)]; exact AGo hS.2.1.2.2.1 (by omega)) (by rw [co 10 1 (Or.inl ⟨by decide, rfl⟩) (by decide)]; exact AGo hS.2.1.2.2.2 (by omega)) (by rw [co 9 1 (Or.inl ⟨by decide, rfl⟩) (by decide)]; exact hS.2.2.1)
    have hV2 : RV (bc_u (M 34 0) (0 + i) v) (M 33 0 5) (M 33 0 6) (M 33 0 7) (M 36 0) (M 37 0) (n + 1) := hV.set (by omega) (by omega) (by omega) (by omega) (by omega) (by omega) (by omega) (by omega)
    have hBX : BS X 0 1 := hB.cong (fun k hk => co k 1 (Or.inl ⟨by omega, rfl⟩) (by omega)) (fun k hk => by rw [eX k 0 (by omega), up_kne (by omega), hR.ot hx k 0 (by omega)]) (fun q _ _ => by rw [eX 21 q (by decide), up_kne (by decide), hR.ot hx 21 q (by omega)]) (by rw [hS.1.2.2.2]; exact hK.a6.2)
    exact ct_mSetPopularity  (hl := Or.inr l3) (k1 := fun q => absurd q (by omega)) (k2 := fun _ q => by (try simp only [x33] at q); exfalso; omega) (k3 := fun _ _ => mpm hD (fo.trans (congrArg w32 (by rw [s1 8 1 (Or.inl ⟨by decide, rfl⟩), mrM_o (by decide) (by decide), up_kne (by decide), x34]; exact hS.2.1.2.1 i (by omega) (by omega)))) (hK.mod h1 hR hX hD hS2 hV2 hBX (by omega))) (ha := by rw [x33]; exact hK.a2) (hit := by rw [x33]; exact hK.a6) (hdi := by rw [x33]; exact hK.a5) (hcl := by rw [x33]; exact hK.a7)
theorem st_setBound {G : bc_G} {M : bc_M} {n i v : Int} (h_i : -2147483648 ≤ i ∧ i < 2147483648) (h_v : -2147483648 ≤ v ∧ v < 2147483648) (hK : KK M n) (hn : n ≤ 2800) : bc_Call G yX8_setBound cX8_setBound 4 (some .int) 9 3 [vR G 1 0, vI i, vI v] M (AFI csA (fun k M2 => bc_Call G yX9_setBound cX9_setBound 3 (some .int) 3 0 [vR G 33 0, vI i, vI v] M2 (MPI n k))) := by
  refine ct_setBound (n := n) (hl := hK.1) (hI := hK.li) (k1 := fun h0 => ?_) (k2 := fun h1 hb => ?_) (k3 := fun h1 hg M1 hR hL => ?_) h_i h_v
  · refine ⟨1, by simp [csA], ?_⟩
    have g0 : M 33 0 3 = 0 := hK.2.1.trans h0
    exact ct_mSetBound  (hl := Or.inl g0) (k1 := fun _ => mp1 hK) (k2 := fun q => absurd q (by omega)) (k3 := fun q => absurd q (by omega)) (ha := hK.a2) (hit := hK.a6) (hdi := hK.a5) (hcl := hK.a7)
  · refine ⟨2, by simp [csA], ?_⟩
    obtain ⟨q5, q6, q7⟩ := hK.eqs h1
    have g1 : M 33 0 3 = 1 := hK.2.1.trans h1
    (try simp only [q5, q6, q7] at hb)
    exact ct_mSetBound  (hl := Or.inr g1) (k1 := fun q => absurd q (by omega)) (k2 := fun _ _ => mp1 hK) (k3 := fun _ q => by exfalso; omega) (ha := hK.a2) (hit := hK.a6) (hdi := hK.a5) (hcl := hK.a7)
  · obtain ⟨q5, q6, q7⟩ := hK.eqs h1
    (try simp only [q5, q6, q7] at hg)
    obtain ⟨⟨hS, hV⟩, hH, hB⟩ := hK.cu h1
    have hx := hK.2.2.2.2.2.2.2.2.2.1
    have s1 := hR.s1 hx
    have hY : Fr CHP M1 (bc_up M1 10 1 i v) := Fr.up (Or.inl (Or.inl ⟨by decide, rfl⟩))
    refine ⟨_, rfl, KX hK h1 hR hY (C := fun M2 => bc_Call G yX9_setBound cX9_setBound 3 (some .int) 3 0 [vR G 33 0, vI i, vI v] M2 (MPI n 0)) (fun X hX eX fo hx5 ms => ?_)⟩
    obtain ⟨x33, x34, x35, x36, x37⟩ := hx5
    have l3 : X 33 0 3 = 1 := by rw [x33]; exact hK.2.1.trans h1
    have cl : ∀ k j, STP 1 k j → X k j = bc_up M1 10 1 i v k j := fun k j hk => by rw [eX k j (by unfold STP at hk; omega)]
    have co : ∀ k j, STP 1 k j → k ≠ 10 → X k j = M k j := fun k j hk h8 => by rw [cl k j hk, up_kne h8, s1 k j hk]
    have cv : X 10 1 = bc_u (M 10 1) i v := by rw [cl 10 1 (Or.inl ⟨by decide, rfl⟩), up_at, s1 10 1 (Or.inl ⟨by decide, rfl⟩)]
    have hD : MD X (bc_up (mrM (bc_up X 33 0 4 0)) 34 0 (32 + i) v) (bc_u (M 34 0) (32 + i) v) := by
      have := (MD.b (X := X)).u (p := 32 + i) (v := v)
      rw [x34] at this
      exact this
    have hnd := hK.a5
    have hni := hK.a6
    have c6 := co 6 1 (Or.inl ⟨by decide, rfl⟩) (by decide)
    have hS2 : SE X 1 (bc_u (M 34 0) (32 + i) v) (M 33 0 5) (M 33 0 6) (M 33 0 7) (M 36 0) (M 37 0) := hS.upd hK.a7.2 (co 5 1 (Or.inl ⟨by decide, rfl⟩) (by decide)) (fun k j hk a b => co k j (Or.inr ⟨hk, by omega, by omega⟩) (by omega)) (fun q a b => u_ne (by omega)) ⟨by rw [c6, u_ne (by omega)]; exact hS.1.1, by rw [c6, u_ne (by omega)]; exact hS.1.2.1, by rw [c6]; exact hS.1.2.2.1, by rw [c6]; exact hS.1.2.2.2⟩ (by rw [co 7 1 (Or.inl ⟨by decide, rfl⟩) (by decide)]; exact AGo hS.2.1.1 (by omega)) (by rw [co 8 1 (Or.inl ⟨by decide, rfl⟩) (by decide)]; exact AGo hS.2.1.2.1 (by omega)) (by rw [co 9 1 (Or.inl ⟨by decide, rfl⟩) (by decide)]; exact AGo hS.2.1.2.2.1 (by omega)) (by rw [cv]; exact AGu hS.2.1.2.2.2) (by rw [co 9 1 (Or.inl ⟨by decide, rfl⟩) (by decide)]; exact hS.2.2.1)
    have hV2 : RV (bc_u (M 34 0) (32 + i) v) (M 33 0 5) (M 33 0 6) (M 33 0 7) (M 36 0) (M 37 0) (n + 1) := hV.set (by omega) (by omega) (by omega) (by omega) (by omega) (by omega) (by omega) (by omega)
    have hBX : BS X 0 1 := hB.cong (fun k hk => co k 1 (Or.inl ⟨by omega, rfl⟩) (by omega)) (fun k hk => by rw [eX k 0 (by omega), up_kne (by omega), hR.ot hx k 0 (by omega)]) (fun q _ _ => by rw [eX 21 q (by decide), up_kne (by decide), hR.ot hx 21 q (by omega)]) (by rw [hS.1.2.2.2]; exact hK.a6.2)
    exact ct_mSetBound  (hl := Or.inr l3) (k1 := fun q => absurd q (by omega)) (k2 := fun _ q => by (try simp only [x33] at q); exfalso; omega) (k3 := fun _ _ => mpm hD (fo.trans (congrArg w32 (by rw [s1 10 1 (Or.inl ⟨by decide, rfl⟩), mrM_o (by decide) (by decide), up_kne (by decide), x34]; exact hS.2.1.2.2.2 i (by omega) (by omega)))) (hK.mod h1 hR hX hD hS2 hV2 hBX (by omega))) (ha := by rw [x33]; exact hK.a2) (hit := by rw [x33]; exact hK.a6) (hdi := by rw [x33]; exact hK.a5) (hcl := by rw [x33]; exact hK.a7)
theorem st_setFrequency {G : bc_G} {M : bc_M} {n x v : Int} (h_x : -2147483648 ≤ x ∧ x < 2147483648) (h_v : -2147483648 ≤ v ∧ v < 2147483648) (hK : KK M n) (hn : n ≤ 2800) : bc_Call G yX8_setFrequency cX8_setFrequency 4 (some .int) 9 3 [vR G 1 0, vI x, vI v] M (AFI csA (fun k M2 => bc_Call G yX9_setFrequency cX9_setFrequency 3 (some .int) 3 0 [vR G 33 0, vI x, vI v] M2 (MPI n k))) := by
  refine ct_setFrequency (n := n) (hl := hK.1) (hI := hK.li) (k1 := fun h0 => ?_) (k2 := fun h1 hb => ?_) (k3 := fun h1 hg M1 hR hL M2 hF hB2 => ?_) h_x h_v
  · refine ⟨1, by simp [csA], ?_⟩
    have g0 : M 33 0 3 = 0 := hK.2.1.trans h0
    exact ct_mSetFrequency  (hl := Or.inl g0) (k1 := fun _ => mp1 hK) (k2 := fun q => absurd q (by omega)) (k3 := fun q => absurd q (by omega)) (ha := hK.a2) (hit := hK.a6) (hdi := hK.a5) (hcl := hK.a7)
  · refine ⟨2, by simp [csA], ?_⟩
    obtain ⟨q5, q6, q7⟩ := hK.eqs h1
    have g1 : M 33 0 3 = 1 := hK.2.1.trans h1
    (try simp only [q5, q6, q7] at hb)
    exact ct_mSetFrequency  (hl := Or.inr g1) (k1 := fun q => absurd q (by omega)) (k2 := fun _ _ => mp1 hK) (k3 := fun _ q => by exfalso; omega) (ha := hK.a2) (hit := hK.a6) (hdi := hK.a5) (hcl := hK.a7)
  · obtain ⟨q5, q6, q7⟩ := hK.eqs h1
    (try simp only [q5, q6, q7] at hg)
    obtain ⟨⟨hS, hV⟩, hH, hB⟩ := hK.cu h1
    have hx := hK.2.2.2.2.2.2.2.2.2.1
    have s1 := hR.s1 hx
    have hY : Fr CHP M1 M2 := Fr.tr (M1 := bc_up M1 7 1 x v) (Fr.up (Or.inl (Or.inl ⟨by decide, rfl⟩))) (hF.mono (fun k j q => Or.inr (Or.inl q)))
    refine ⟨_, rfl, KX hK h1 hR hY (C := fun M2 => bc_Call G yX9_setFrequency cX9_setFrequency 3 (some .int) 3 0 [vR G 33 0, vI x, vI v] M2 (MPI n 0)) (fun X hX eX fo hx5 ms => ?_)⟩
    obtain ⟨x33, x34, x35, x36, x37⟩ := hx5
    have l3 : X 33 0 3 = 1 := by rw [x33]; exact hK.2.1.trans h1
    have cl : ∀ k j, STP 1 k j → X k j = bc_up M1 7 1 x v k j := fun k j hk => by rw [eX k j (by unfold STP at hk; omega), hF k j (by unfold STP at hk; unfold bpP; omega)]
    have co : ∀ k j, STP 1 k j → k ≠ 7 → X k j = M k j := fun k j hk h8 => by rw [cl k j hk, up_kne h8, s1 k j hk]
    have cv : X 7 1 = bc_u (M 7 1) x v := by rw [cl 7 1 (Or.inl ⟨by decide, rfl⟩), up_at, s1 7 1 (Or.inl ⟨by decide, rfl⟩)]
    have hD : MD X (bc_up (mrM (bc_up X 33 0 4 0)) 34 0 (48 + x) v) (bc_u (M 34 0) (48 + x) v) := by
      have := (MD.b (X := X)).u (p := 48 + x) (v := v)
      rw [x34] at this
      exact this
    have hnd := hK.a5
    have hni := hK.a6
    have c6 := co 6 1 (Or.inl ⟨by decide, rfl⟩) (by decide)
    have hS2 : SE X 1 (bc_u (M 34 0) (48 + x) v) (M 33 0 5) (M 33 0 6) (M 33 0 7) (M 36 0) (M 37 0) := hS.upd hK.a7.2 (co 5 1 (Or.inl ⟨by decide, rfl⟩) (by decide)) (fun k j hk a b => co k j (Or.inr ⟨hk, by omega, by omega⟩) (by omega)) (fun q a b => u_ne (by omega)) ⟨by rw [c6, u_ne (by omega)]; exact hS.1.1, by rw [c6, u_ne (by omega)]; exact hS.1.2.1, by rw [c6]; exact hS.1.2.2.1, by rw [c6]; exact hS.1.2.2.2⟩ (by rw [cv]; exact AGu hS.2.1.1) (by rw [co 8 1 (Or.inl ⟨by decide, rfl⟩) (by decide)]; exact AGo hS.2.1.2.1 (by omega)) (by rw [co 9 1 (Or.inl ⟨by decide, rfl⟩) (by decide)]; exact AGo hS.2.1.2.2.1 (by omega)) (by rw [co 10 1 (Or.inl ⟨by decide, rfl⟩) (by decide)]; exact AGo hS.2.1.2.2.2 (by omega)) (by rw [co 9 1 (Or.inl ⟨by decide, rfl⟩) (by decide)]; exact hS.2.2.1)
    have hV2 : RV (bc_u (M 34 0) (48 + x) v) (M 33 0 5) (M 33 0 6) (M 33 0 7) (M 36 0) (M 37 0) (n + 1) := hV.set (by omega) (by omega) (by omega) (by omega) (by omega) (by omega) (by omega) (by omega)
    have hBX : BS X 0 1 := hB2.cong (fun k hk => eX k 1 (by omega)) (fun k hk => eX k 0 (by omega)) (fun q _ _ => eX 21 q (by decide)) (by rw [← eX 6 1 (by decide), c6, hS.1.2.2.2]; exact hK.a6.2)
    exact ct_mSetFrequency  (hl := Or.inr l3) (k1 := fun q => absurd q (by omega)) (k2 := fun _ q => by (try simp only [x33] at q); exfalso; omega) (k3 := fun _ _ => mpm hD (fo.trans (congrArg w32 (by rw [s1 7 1 (Or.inl ⟨by decide, rfl⟩), mrM_o (by decide) (by decide), up_kne (by decide), x34]; exact hS.2.1.1 x (by omega) (by omega)))) (hK.mod h1 hR hX hD hS2 hV2 hBX (by omega))) (ha := by rw [x33]; exact hK.a2) (hit := by rw [x33]; exact hK.a6) (hdi := by rw [x33]; exact hK.a5) (hcl := by rw [x33]; exact hK.a7)
theorem st_moveItem {G : bc_G} {M : bc_M} {n i x : Int} (h_i : -2147483648 ≤ i ∧ i < 2147483648) (h_x : -2147483648 ≤ x ∧ x < 2147483648) (hK : KK M n) (hn : n ≤ 2800) : bc_Call G yX8_moveItem cX8_moveItem 4 (some .int) 9 3 [vR G 1 0, vI i, vI x] M (AFI csA (fun k M2 => bc_Call G yX9_moveItem cX9_moveItem 3 (some .int) 3 0 [vR G 33 0, vI i, vI x] M2 (MPI n k))) := by
  refine ct_moveItem (n := n) (hl := hK.1) (hI := hK.li) (k1 := fun h0 => ?_) (k2 := fun h1 hb => ?_) (k3 := fun h1 hg M1 hR hL M2 hF hB2 => ?_) h_i h_x
  · refine ⟨1, by simp [csA], ?_⟩
    have g0 : M 33 0 3 = 0 := hK.2.1.trans h0
    exact ct_mMoveItem  (hl := Or.inl g0) (k1 := fun _ => mp1 hK) (k2 := fun q => absurd q (by omega)) (k3 := fun q => absurd q (by omega)) (ha := hK.a2) (hit := hK.a6) (hdi := hK.a5) (hcl := hK.a7)
  · refine ⟨2, by simp [csA], ?_⟩
    obtain ⟨q5, q6, q7⟩ := hK.eqs h1
    have g1 : M 33 0 3 = 1 := hK.2.1.trans h1
    (try simp only [q5, q6, q7] at hb)
    exact ct_mMoveItem  (hl := Or.inr g1) (k1 := fun q => absurd q (by omega)) (k2 := fun _ _ => mp1 hK) (k3 := fun _ q => by exfalso; omega) (ha := hK.a2) (hit := hK.a6) (hdi := hK.a5) (hcl := hK.a7)
  · obtain ⟨q5, q6, q7⟩ := hK.eqs h1
    (try simp only [q5, q6, q7] at hg)
    obtain ⟨⟨hS, hV⟩, hH, hB⟩ := hK.cu h1
    have hx := hK.2.2.2.2.2.2.2.2.2.1
    have s1 := hR.s1 hx
    have hY : Fr CHP M1 M2 := Fr.tr (M1 := bc_up M1 9 1 i x) (Fr.up (Or.inl (Or.inl ⟨by decide, rfl⟩))) (hF.mono (fun k j q => Or.inr (Or.inl q)))
    refine ⟨_, rfl, KX hK h1 hR hY (C := fun M2 => bc_Call G yX9_moveItem cX9_moveItem 3 (some .int) 3 0 [vR G 33 0, vI i, vI x] M2 (MPI n 0)) (fun X hX eX fo hx5 ms => ?_)⟩
    obtain ⟨x33, x34, x35, x36, x37⟩ := hx5
    have l3 : X 33 0 3 = 1 := by rw [x33]; exact hK.2.1.trans h1
    have cl : ∀ k j, STP 1 k j → X k j = bc_up M1 9 1 i x k j := fun k j hk => by rw [eX k j (by unfold STP at hk; omega), hF k j (by unfold STP at hk; unfold bpP; omega)]
    have co : ∀ k j, STP 1 k j → k ≠ 9 → X k j = M k j := fun k j hk h8 => by rw [cl k j hk, up_kne h8, s1 k j hk]
    have cv : X 9 1 = bc_u (M 9 1) i x := by rw [cl 9 1 (Or.inl ⟨by decide, rfl⟩), up_at, s1 9 1 (Or.inl ⟨by decide, rfl⟩)]
    have hD : MD X (bc_up (mrM (bc_up X 33 0 4 0)) 34 0 (16 + i) x) (bc_u (M 34 0) (16 + i) x) := by
      have := (MD.b (X := X)).u (p := 16 + i) (v := x)
      rw [x34] at this
      exact this
    have hnd := hK.a5
    have hni := hK.a6
    have c6 := co 6 1 (Or.inl ⟨by decide, rfl⟩) (by decide)
    have hS2 : SE X 1 (bc_u (M 34 0) (16 + i) x) (M 33 0 5) (M 33 0 6) (M 33 0 7) (M 36 0) (M 37 0) := hS.upd hK.a7.2 (co 5 1 (Or.inl ⟨by decide, rfl⟩) (by decide)) (fun k j hk a b => co k j (Or.inr ⟨hk, by omega, by omega⟩) (by omega)) (fun q a b => u_ne (by omega)) ⟨by rw [c6, u_ne (by omega)]; exact hS.1.1, by rw [c6, u_ne (by omega)]; exact hS.1.2.1, by rw [c6]; exact hS.1.2.2.1, by rw [c6]; exact hS.1.2.2.2⟩ (by rw [co 7 1 (Or.inl ⟨by decide, rfl⟩) (by decide)]; exact AGo hS.2.1.1 (by omega)) (by rw [co 8 1 (Or.inl ⟨by decide, rfl⟩) (by decide)]; exact AGo hS.2.1.2.1 (by omega)) (by rw [cv]; exact AGu hS.2.1.2.2.1) (by rw [co 10 1 (Or.inl ⟨by decide, rfl⟩) (by decide)]; exact AGo hS.2.1.2.2.2 (by omega)) (by
      rw [cv]
      intro q a b
      have := hS.2.2.1 q a b
      by_cases e : q = i
      · subst e; rw [u_at]; omega
      · rw [u_ne e]; exact this)
    have hV2 : RV (bc_u (M 34 0) (16 + i) x) (M 33 0 5) (M 33 0 6) (M 33 0 7) (M 36 0) (M 37 0) (n + 1) := hV.set (by omega) (by omega) (by omega) (by omega) (by omega) (by omega) (by omega) (by omega)
    have hBX : BS X 0 1 := hB2.cong (fun k hk => eX k 1 (by omega)) (fun k hk => eX k 0 (by omega)) (fun q _ _ => eX 21 q (by decide)) (by rw [← eX 6 1 (by decide), c6, hS.1.2.2.2]; exact hK.a6.2)
    exact ct_mMoveItem  (hl := Or.inr l3) (k1 := fun q => absurd q (by omega)) (k2 := fun _ q => by (try simp only [x33] at q); exfalso; omega) (k3 := fun _ _ => mpm hD (fo.trans (congrArg w32 (by rw [s1 9 1 (Or.inl ⟨by decide, rfl⟩), mrM_o (by decide) (by decide), up_kne (by decide), x34]; exact hS.2.1.2.2.1 i (by omega) (by omega)))) (hK.mod h1 hR hX hD hS2 hV2 hBX (by omega))) (ha := by rw [x33]; exact hK.a2) (hit := by rw [x33]; exact hK.a6) (hdi := by rw [x33]; exact hK.a5) (hcl := by rw [x33]; exact hK.a7)
theorem st_setIndex {G : bc_G} {M : bc_M} {n s v : Int} (h_s : -2147483648 ≤ s ∧ s < 2147483648) (h_v : -2147483648 ≤ v ∧ v < 2147483648) (hK : KK M n) (hn : n ≤ 2800) : bc_Call G yX8_setIndex cX8_setIndex 3 (some .int) 9 3 [vR G 1 0, vI s, vI v] M (AFI csA (fun k M2 => bc_Call G yX9_setIndex cX9_setIndex 3 (some .int) 12 0 [vR G 33 0, vI s, vI v] M2 (MPI n k))) := by
  refine ct_setIndex (n := n) (hl := hK.1) (hI := hK.li) (k1 := fun h0 => ?_) (k2 := fun h1 hb => ?_) (k3 := fun h1 hg M1 hR hL M2 hF hB2 => ?_) h_s h_v
  · refine ⟨1, by simp [csA], ?_⟩
    have g0 : M 33 0 3 = 0 := hK.2.1.trans h0
    exact ct_mSetIndex (dk := rDk (M 34 0)) (fr := rFr (M 34 0)) (pop := rPop (M 34 0)) (bnd := rBnd (M 34 0)) (nd := M 33 0 5) (ni := M 33 0 6) (sg := M 34 0 52) (ln := M 34 0 53) (hI := fun q => absurd q (by omega)) (hl := Or.inl g0) (k1 := fun _ => mp1 hK) (k2 := fun q => absurd q (by omega)) (k3 := fun q => absurd q (by omega)) (ha := hK.a2) (hit := hK.a6) (hdi := hK.a5) (hcl := hK.a7)
  · refine ⟨2, by simp [csA], ?_⟩
    obtain ⟨q5, q6, q7⟩ := hK.eqs h1
    have g1 : M 33 0 3 = 1 := hK.2.1.trans h1
    (try simp only [q5, q6, q7] at hb)
    exact ct_mSetIndex (dk := rDk (M 34 0)) (fr := rFr (M 34 0)) (pop := rPop (M 34 0)) (bnd := rBnd (M 34 0)) (nd := M 33 0 5) (ni := M 33 0 6) (sg := M 34 0 52) (ln := M 34 0 53) (hI := fun _ => hK.ms g1) (hl := Or.inr g1) (k1 := fun q => absurd q (by omega)) (k2 := fun _ _ => mp1 hK) (k3 := fun _ q => by exfalso; omega) (ha := hK.a2) (hit := hK.a6) (hdi := hK.a5) (hcl := hK.a7)
  · obtain ⟨q5, q6, q7⟩ := hK.eqs h1
    (try simp only [q5, q6, q7] at hg)
    obtain ⟨⟨hS, hV⟩, hH, hB⟩ := hK.cu h1
    have hx := hK.2.2.2.2.2.2.2.2.2.1
    have s1 := hR.s1 hx
    have hY : Fr CHP M1 M2 := Fr.tr (M1 := bc_up (bc_up M1 6 1 0 s) 6 1 1 v) (Fr.tr (M1 := bc_up M1 6 1 0 s) (Fr.up (Or.inl (Or.inl ⟨by decide, rfl⟩))) (Fr.up (Or.inl (Or.inl ⟨by decide, rfl⟩)))) (hF.mono (fun k j q => Or.inr (Or.inl q)))
    refine ⟨_, rfl, KX hK h1 hR hY (C := fun M2 => bc_Call G yX9_setIndex cX9_setIndex 3 (some .int) 12 0 [vR G 33 0, vI s, vI v] M2 (MPI n 0)) (fun X hX eX fo hx5 ms => ?_)⟩
    obtain ⟨x33, x34, x35, x36, x37⟩ := hx5
    have l3 : X 33 0 3 = 1 := by rw [x33]; exact hK.2.1.trans h1
    have cl : ∀ k j, STP 1 k j → X k j = bc_up (bc_up M1 6 1 0 s) 6 1 1 v k j := fun k j hk => by rw [eX k j (by unfold STP at hk; omega), hF k j (by unfold STP at hk; unfold bpP; omega)]
    have co : ∀ k j, STP 1 k j → k ≠ 6 → X k j = M k j := fun k j hk h8 => by rw [cl k j hk, up_kne h8, up_kne h8, s1 k j hk]
    have cv : X 6 1 = bc_u (bc_u (M 6 1) 0 s) 1 v := by rw [cl 6 1 (Or.inl ⟨by decide, rfl⟩), up_at, up_at, s1 6 1 (Or.inl ⟨by decide, rfl⟩)]
    have hnd := hK.a5
    have hni := hK.a6
    have hS2 : SE X 1 (bc_u (bc_u (M 34 0) 52 s) 53 v) (M 33 0 5) (M 33 0 6) (M 33 0 7) (M 36 0) (M 37 0) := hS.upd hK.a7.2 (co 5 1 (Or.inl ⟨by decide, rfl⟩) (by decide)) (fun k j hk a b => co k j (Or.inr ⟨hk, by omega, by omega⟩) (by omega)) (fun q a b => by rw [u_ne (by omega), u_ne (by omega)]) ⟨by rw [cv, u_ne (by decide), u_at, u_ne (by decide), u_at], by rw [cv, u_at, u_at], by rw [cv, u_ne (by decide), u_ne (by decide)]; exact hS.1.2.2.1, by rw [cv, u_ne (by decide), u_ne (by decide)]; exact hS.1.2.2.2⟩ (by rw [co 7 1 (Or.inl ⟨by decide, rfl⟩) (by decide)]; exact AGo (AGo hS.2.1.1 (by omega)) (by omega)) (by rw [co 8 1 (Or.inl ⟨by decide, rfl⟩) (by decide)]; exact AGo (AGo hS.2.1.2.1 (by omega)) (by omega)) (by rw [co 9 1 (Or.inl ⟨by decide, rfl⟩) (by decide)]; exact AGo (AGo hS.2.1.2.2.1 (by omega)) (by omega)) (by rw [co 10 1 (Or.inl ⟨by decide, rfl⟩) (by decide)]; exact AGo (AGo hS.2.1.2.2.2 (by omega)) (by omega)) (by rw [co 9 1 (Or.inl ⟨by decide, rfl⟩) (by decide)]; exact hS.2.2.1)
    have hV2 : RV (bc_u (bc_u (M 34 0) 52 s) 53 v) (M 33 0 5) (M 33 0 6) (M 33 0 7) (M 36 0) (M 37 0) (n + 1) := (hV.set (p := 52) (v := s) (Int.le_refl _) (by omega) (by omega) (by omega) (by omega) (by omega) (by omega) (by omega)).set (by omega) (by omega) (by omega) (by omega) (by omega) (by omega) (by omega) (by omega)
    have hBX : BS X 0 1 := hB2.cong (fun k hk => eX k 1 (by omega)) (fun k hk => eX k 0 (by omega)) (fun q _ _ => eX 21 q (by decide)) (by rw [← eX 6 1 (by decide), cv, u_ne (by decide), u_ne (by decide), hS.1.2.2.2]; exact hK.a6.2)
    have hBR := (hS2.br hV2 hBX).c hV2.1 (dk' := rDk (M 34 0)) (fr' := rFr (M 34 0)) (AG.sy (AGo (AGo AG.rf (by omega)) (by omega))) (AG.sy (AGo (AGo AG.rf (by omega)) (by omega)))
    have hcy : M2 17 0 0 = sp_S (rDk (M 34 0)) (rFr (M 34 0)) (M 33 0 5) (M 33 0 6) + s * v := by
      have := hBR.1
      rw [eX 17 0 (by decide), u_ne (by decide), u_at, u_at] at this
      exact this
    exact ct_mSetIndex (dk := rDk (M 34 0)) (fr := rFr (M 34 0)) (pop := rPop (M 34 0)) (bnd := rBnd (M 34 0)) (nd := M 33 0 5) (ni := M 33 0 6) (sg := M 34 0 52) (ln := M 34 0 53) (hI := fun _ => ms) (hl := Or.inr l3) (k1 := fun q => absurd q (by omega)) (k2 := fun _ q => by (try simp only [x33] at q); exfalso; omega) (k3 := fun _ _ M3 hL3 => by
      have hD : MD X M3 (bc_u (bc_u (M 34 0) 52 s) 53 v) := by
        have := (((MD.b (X := X)).u (p := 52) (v := s)).u (p := 53) (v := v)).ly hL3
        rw [x34] at this
        exact this
      exact mpm hD (fo.trans (congrArg w32 hcy)) (hK.mod h1 hR hX hD hS2 hV2 hBX (by omega))) (ha := by rw [x33]; exact hK.a2) (hit := by rw [x33]; exact hK.a6) (hdi := by rw [x33]; exact hK.a5) (hcl := by rw [x33]; exact hK.a7)
