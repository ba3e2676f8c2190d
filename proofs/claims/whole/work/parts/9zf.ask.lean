/-! a step of the law, op by op: the questions -/
theorem cv_eq {M : bc_M} {x cp pl w : Int} {g : Int → Int} (h : CE M x cp pl g) (hw : 0 ≤ w ∧ w ≤ 5) : (if w = 0 then M 12 x 2 else if w = 1 then M 12 x 3 else if w = 2 then M 12 x 4 else if w = 3 then M 12 x 5 else if w = 4 then M 12 x 6 else M 12 x 0) = if w = 5 then cp else g w := by
  obtain ⟨⟨c0, c1⟩, ⟨c2, c3, c4, c5, c6, c7, c8⟩, c9⟩ := h
  rw [c0, c2, c3, c4, c5, c6]
  have h6 : w = 0 ∨ w = 1 ∨ w = 2 ∨ w = 3 ∨ w = 4 ∨ w = 5 := by omega
  rcases h6 with e | e | e | e | e | e <;> subst e <;> rfl
theorem st_itemValue {G : bc_G} {M : bc_M} {n i w : Int} (h_i : -2147483648 ≤ i ∧ i < 2147483648) (h_w : -2147483648 ≤ w ∧ w < 2147483648) (hK : KK M n) (hn : n ≤ 2800) : bc_Call G yX8_itemValue cX8_itemValue 3 (some .int) 9 3 [vR G 1 0, vI i, vI w] M (AFI csA (fun k M2 => bc_Call G yX9_itemValue cX9_itemValue 3 (some .int) 12 0 [vR G 33 0, vI i, vI w] M2 (MPI n k))) := by
  refine ct_itemValue (n := n) (hl := hK.1) (hI := hK.li) (k1 := fun h0 => ?_) (k2 := fun h1 hb => ?_) (k3 := fun h1 hg => ?_) h_i h_w
  · refine ⟨1, by simp [csA], ?_⟩
    have g0 : M 33 0 3 = 0 := hK.2.1.trans h0
    exact ct_mItemValue (dk := rDk (M 34 0)) (fr := rFr (M 34 0)) (pop := rPop (M 34 0)) (bnd := rBnd (M 34 0)) (nd := M 33 0 5) (ni := M 33 0 6) (sg := M 34 0 52) (ln := M 34 0 53) (hI := fun q => absurd q (by omega)) (hl := Or.inl g0) (k1 := fun _ => mp1 hK) (k2 := fun q => absurd q (by omega)) (k3 := fun q => absurd q (by omega)) (ha := hK.a2) (hit := hK.a6) (hdi := hK.a5) (hcl := hK.a7)
  · refine ⟨2, by simp [csA], ?_⟩
    obtain ⟨q5, q6, q7⟩ := hK.eqs h1
    have g1 : M 33 0 3 = 1 := hK.2.1.trans h1
    (try simp only [q5, q6, q7] at hb)
    exact ct_mItemValue (dk := rDk (M 34 0)) (fr := rFr (M 34 0)) (pop := rPop (M 34 0)) (bnd := rBnd (M 34 0)) (nd := M 33 0 5) (ni := M 33 0 6) (sg := M 34 0 52) (ln := M 34 0 53) (hI := fun _ => hK.ms g1) (hl := Or.inr g1) (k1 := fun q => absurd q (by omega)) (k2 := fun _ _ => mp1 hK) (k3 := fun _ q => by exfalso; omega) (ha := hK.a2) (hit := hK.a6) (hdi := hK.a5) (hcl := hK.a7)
  · obtain ⟨q5, q6, q7⟩ := hK.eqs h1
    (try simp only [q5, q6, q7] at hg)
    obtain ⟨⟨hS, hV⟩, hH, hB⟩ := hK.cu h1
    refine ⟨_, rfl, KQ hK h1 KE.rf (C := fun M2 => bc_Call G yX9_itemValue cX9_itemValue 3 (some .int) 12 0 [vR G 33 0, vI i, vI w] M2 (MPI n 0)) (fun M2 K2 ms l3 hf h34 fo => ?_)⟩
    obtain ⟨f5, f6, f7⟩ := hf
    obtain ⟨f34, f36, f37⟩ := h34
    exact ct_mItemValue (dk := rDk (M 34 0)) (fr := rFr (M 34 0)) (pop := rPop (M 34 0)) (bnd := rBnd (M 34 0)) (nd := M 33 0 5) (ni := M 33 0 6) (sg := M 34 0 52) (ln := M 34 0 53) (hI := fun _ => ms) (hl := Or.inr l3) (k1 := fun q => absurd q (by omega)) (k2 := fun _ q => by (try simp only [f5, f6, f7] at q); exfalso; omega) (k3 := fun _ _ M3 hQ => mpq K2 hQ (fo.trans (congrArg w32 (by rw [hS.2.1.2.1 i (by omega) (by omega), hS.2.1.2.2.1 i (by omega) (by omega), hS.2.1.2.2.2 i (by omega) (by omega)])))) (ha := K2.a2) (hit := K2.a6) (hdi := K2.a5) (hcl := K2.a7)
theorem st_frequency {G : bc_G} {M : bc_M} {n x : Int} (h_x : -2147483648 ≤ x ∧ x < 2147483648) (hK : KK M n) (hn : n ≤ 2800) : bc_Call G yX8_frequency cX8_frequency 2 (some .int) 9 2 [vR G 1 0, vI x] M (AFI csA (fun k M2 => bc_Call G yX9_frequency cX9_frequency 2 (some .int) 3 0 [vR G 33 0, vI x] M2 (MPI n k))) := by
  refine ct_frequency (n := n) (hl := hK.1) (hI := hK.li) (k1 := fun h0 => ?_) (k2 := fun h1 hb => ?_) (k3 := fun h1 hg => ?_) h_x
  · refine ⟨1, by simp [csA], ?_⟩
    have g0 : M 33 0 3 = 0 := hK.2.1.trans h0
    exact ct_mFrequency  (hl := Or.inl g0) (k1 := fun _ => mp1 hK) (k2 := fun q => absurd q (by omega)) (k3 := fun q => absurd q (by omega)) (ha := hK.a2) (hit := hK.a6) (hdi := hK.a5) (hcl := hK.a7)
  · refine ⟨2, by simp [csA], ?_⟩
    obtain ⟨q5, q6, q7⟩ := hK.eqs h1
    have g1 : M 33 0 3 = 1 := hK.2.1.trans h1
    (try simp only [q5, q6, q7] at hb)
    exact ct_mFrequency  (hl := Or.inr g1) (k1 := fun q => absurd q (by omega)) (k2 := fun _ _ => mp1 hK) (k3 := fun _ q => by exfalso; omega) (ha := hK.a2) (hit := hK.a6) (hdi := hK.a5) (hcl := hK.a7)
  · obtain ⟨q5, q6, q7⟩ := hK.eqs h1
    (try simp only [q5, q6, q7] at hg)
    obtain ⟨⟨hS, hV⟩, hH, hB⟩ := hK.cu h1
    refine ⟨_, rfl, KQ hK h1 KE.rf (C := fun M2 => bc_Call G yX9_frequency cX9_frequency 2 (some .int) 3 0 [vR G 33 0, vI x] M2 (MPI n 0)) (fun M2 K2 ms l3 hf h34 fo => ?_)⟩
    obtain ⟨f5, f6, f7⟩ := hf
    obtain ⟨f34, f36, f37⟩ := h34
    exact ct_mFrequency  (hl := Or.inr l3) (k1 := fun q => absurd q (by omega)) (k2 := fun _ q => by (try simp only [f5, f6, f7] at q); exfalso; omega) (k3 := fun _ _ => mpu K2 (fo.trans (congrArg w32 (by rw [f34]; exact hS.2.1.1 x (by omega) (by omega))))) (ha := K2.a2) (hit := K2.a6) (hdi := K2.a5) (hcl := K2.a7)
theorem st_itemsOf {G : bc_G} {M : bc_M} {n x : Int} (h_x : -2147483648 ≤ x ∧ x < 2147483648) (hK : KK M n) (hn : n ≤ 2800) : bc_Call G yX8_itemsOf cX8_itemsOf 4 (some .int) 9 2 [vR G 1 0, vI x] M (AFI csA (fun k M2 => bc_Call G yX9_itemsOf cX9_itemsOf 2 (some .int) 12 0 [vR G 33 0, vI x] M2 (MPI n k))) := by
  refine ct_itemsOf (n := n) (hl := hK.1) (hI := hK.li) (k1 := fun h0 => ?_) (k2 := fun h1 hb => ?_) (k3 := fun h1 hg => ?_) h_x
  · refine ⟨1, by simp [csA], ?_⟩
    have g0 : M 33 0 3 = 0 := hK.2.1.trans h0
    exact ct_mItemsOf (dk := rDk (M 34 0)) (fr := rFr (M 34 0)) (pop := rPop (M 34 0)) (bnd := rBnd (M 34 0)) (nd := M 33 0 5) (ni := M 33 0 6) (sg := M 34 0 52) (ln := M 34 0 53) (hI := fun q => absurd q (by omega)) (hl := Or.inl g0) (k1 := fun _ => mp1 hK) (k2 := fun q => absurd q (by omega)) (k3 := fun q => absurd q (by omega)) (ha := hK.a2) (hit := hK.a6) (hdi := hK.a5) (hcl := hK.a7)
  · refine ⟨2, by simp [csA], ?_⟩
    obtain ⟨q5, q6, q7⟩ := hK.eqs h1
    have g1 : M 33 0 3 = 1 := hK.2.1.trans h1
    (try simp only [q5, q6, q7] at hb)
    exact ct_mItemsOf (dk := rDk (M 34 0)) (fr := rFr (M 34 0)) (pop := rPop (M 34 0)) (bnd := rBnd (M 34 0)) (nd := M 33 0 5) (ni := M 33 0 6) (sg := M 34 0 52) (ln := M 34 0 53) (hI := fun _ => hK.ms g1) (hl := Or.inr g1) (k1 := fun q => absurd q (by omega)) (k2 := fun _ _ => mp1 hK) (k3 := fun _ q => by exfalso; omega) (ha := hK.a2) (hit := hK.a6) (hdi := hK.a5) (hcl := hK.a7)
  · obtain ⟨q5, q6, q7⟩ := hK.eqs h1
    (try simp only [q5, q6, q7] at hg)
    obtain ⟨⟨hS, hV⟩, hH, hB⟩ := hK.cu h1
    refine ⟨_, rfl, KQ hK h1 KE.rf (C := fun M2 => bc_Call G yX9_itemsOf cX9_itemsOf 2 (some .int) 12 0 [vR G 33 0, vI x] M2 (MPI n 0)) (fun M2 K2 ms l3 hf h34 fo => ?_)⟩
    obtain ⟨f5, f6, f7⟩ := hf
    obtain ⟨f34, f36, f37⟩ := h34
    exact ct_mItemsOf (dk := rDk (M 34 0)) (fr := rFr (M 34 0)) (pop := rPop (M 34 0)) (bnd := rBnd (M 34 0)) (nd := M 33 0 5) (ni := M 33 0 6) (sg := M 34 0 52) (ln := M 34 0 53) (hI := fun _ => ms) (hl := Or.inr l3) (k1 := fun q => absurd q (by omega)) (k2 := fun _ q => by (try simp only [f5, f6, f7] at q); exfalso; omega) (k3 := fun _ _ M3 hQ => mpq K2 hQ (fo.trans (congrArg w32 (an_of hS hV)))) (ha := K2.a2) (hit := K2.a6) (hdi := K2.a5) (hcl := K2.a7)
theorem st_cycle {G : bc_G} {M : bc_M} {n : Int} (hK : KK M n) (hn : n ≤ 2800) : bc_Call G yX8_cycle cX8_cycle 1 (some .int) 9 1 [vR G 1 0] M (AFI csS (fun k M2 => bc_Call G yX9_cycle cX9_cycle 1 (some .int) 12 0 [vR G 33 0] M2 (MPI n k))) := by
  refine ct_cycle (n := n) (hl := hK.1) (hI := hK.li) (k1 := fun h0 => ?_) (k3 := fun h1 => ?_) 
  · refine ⟨1, by simp [csS], ?_⟩
    have g0 : M 33 0 3 = 0 := hK.2.1.trans h0
    exact ct_mCycle (dk := rDk (M 34 0)) (fr := rFr (M 34 0)) (pop := rPop (M 34 0)) (bnd := rBnd (M 34 0)) (nd := M 33 0 5) (ni := M 33 0 6) (sg := M 34 0 52) (ln := M 34 0 53) (hI := fun q => absurd q (by omega)) (hl := Or.inl g0) (k1 := fun _ => mp1 hK) (k3 := fun q => absurd q (by omega)) (ha := hK.a2) (hit := hK.a6) (hdi := hK.a5) (hcl := hK.a7)
  · obtain ⟨q5, q6, q7⟩ := hK.eqs h1
    obtain ⟨⟨hS, hV⟩, hH, hB⟩ := hK.cu h1
    refine ⟨_, rfl, KQ hK h1 KE.rf (C := fun M2 => bc_Call G yX9_cycle cX9_cycle 1 (some .int) 12 0 [vR G 33 0] M2 (MPI n 0)) (fun M2 K2 ms l3 hf h34 fo => ?_)⟩
    obtain ⟨f5, f6, f7⟩ := hf
    obtain ⟨f34, f36, f37⟩ := h34
    exact ct_mCycle (dk := rDk (M 34 0)) (fr := rFr (M 34 0)) (pop := rPop (M 34 0)) (bnd := rBnd (M 34 0)) (nd := M 33 0 5) (ni := M 33 0 6) (sg := M 34 0 52) (ln := M 34 0 53) (hI := fun _ => ms) (hl := Or.inr l3) (k1 := fun q => absurd q (by omega)) (k3 := fun _ M3 hQ => mpq K2 hQ (fo.trans (congrArg w32 (an_cycle hS hV hB)))) (ha := K2.a2) (hit := K2.a6) (hdi := K2.a5) (hcl := K2.a7)
theorem st_slotAt {G : bc_G} {M : bc_M} {n t : Int} (h_t : -2147483648 ≤ t ∧ t < 2147483648) (hK : KK M n) (hn : n ≤ 2800) : bc_Call G yX8_slotAt cX8_slotAt 2 (some .int) 9 2 [vR G 1 0, vI t] M (AFI csA (fun k M2 => bc_Call G yX9_slotAt cX9_slotAt 2 (some .int) 12 0 [vR G 33 0, vI t] M2 (MPI n k))) := by
  refine ct_slotAt (n := n) (hl := hK.1) (hI := hK.li) (k1 := fun h0 => ?_) (k2 := fun h1 hb => ?_) (k3 := fun h1 hg => ?_) h_t
  · refine ⟨1, by simp [csA], ?_⟩
    have g0 : M 33 0 3 = 0 := hK.2.1.trans h0
    exact ct_mSlotAt (dk := rDk (M 34 0)) (fr := rFr (M 34 0)) (pop := rPop (M 34 0)) (bnd := rBnd (M 34 0)) (nd := M 33 0 5) (ni := M 33 0 6) (sg := M 34 0 52) (ln := M 34 0 53) (hI := fun q => absurd q (by omega)) (hl := Or.inl g0) (k1 := fun _ => mp1 hK) (k2 := fun q => absurd q (by omega)) (k3 := fun q => absurd q (by omega)) (ha := hK.a2) (hit := hK.a6) (hdi := hK.a5) (hcl := hK.a7)
  · refine ⟨2, by simp [csA], ?_⟩
    obtain ⟨q5, q6, q7⟩ := hK.eqs h1
    have g1 : M 33 0 3 = 1 := hK.2.1.trans h1
    (try simp only [q5, q6, q7] at hb)
    exact ct_mSlotAt (dk := rDk (M 34 0)) (fr := rFr (M 34 0)) (pop := rPop (M 34 0)) (bnd := rBnd (M 34 0)) (nd := M 33 0 5) (ni := M 33 0 6) (sg := M 34 0 52) (ln := M 34 0 53) (hI := fun _ => hK.ms g1) (hl := Or.inr g1) (k1 := fun q => absurd q (by omega)) (k2 := fun _ _ => mp1 hK) (k3 := fun _ q => by exfalso; omega) (ha := hK.a2) (hit := hK.a6) (hdi := hK.a5) (hcl := hK.a7)
  · obtain ⟨q5, q6, q7⟩ := hK.eqs h1
    (try simp only [q5, q6, q7] at hg)
    obtain ⟨⟨hS, hV⟩, hH, hB⟩ := hK.cu h1
    refine ⟨_, rfl, KQ hK h1 KE.rf (C := fun M2 => bc_Call G yX9_slotAt cX9_slotAt 2 (some .int) 12 0 [vR G 33 0, vI t] M2 (MPI n 0)) (fun M2 K2 ms l3 hf h34 fo => ?_)⟩
    obtain ⟨f5, f6, f7⟩ := hf
    obtain ⟨f34, f36, f37⟩ := h34
    exact ct_mSlotAt (dk := rDk (M 34 0)) (fr := rFr (M 34 0)) (pop := rPop (M 34 0)) (bnd := rBnd (M 34 0)) (nd := M 33 0 5) (ni := M 33 0 6) (sg := M 34 0 52) (ln := M 34 0 53) (hI := fun _ => ms) (hl := Or.inr l3) (k1 := fun q => absurd q (by omega)) (k2 := fun _ q => by (try simp only [f5, f6, f7] at q); exfalso; omega) (k3 := fun _ _ M3 hQ hML => mpq K2 hQ (fo.trans (congrArg w32 (an_slot hS hV hB hML.2.1 hML.2.2)))) (ha := K2.a2) (hit := K2.a6) (hdi := K2.a5) (hcl := K2.a7)
theorem st_occurrences {G : bc_G} {M : bc_M} {n i : Int} (h_i : -2147483648 ≤ i ∧ i < 2147483648) (hK : KK M n) (hn : n ≤ 2800) : bc_Call G yX8_occurrences cX8_occurrences 2 (some .int) 9 2 [vR G 1 0, vI i] M (AFI csA (fun k M2 => bc_Call G yX9_occurrences cX9_occurrences 2 (some .int) 12 0 [vR G 33 0, vI i] M2 (MPI n k))) := by
  refine ct_occurrences (n := n) (hl := hK.1) (hI := hK.li) (k1 := fun h0 => ?_) (k2 := fun h1 hb => ?_) (k3 := fun h1 hg => ?_) h_i
  · refine ⟨1, by simp [csA], ?_⟩
    have g0 : M 33 0 3 = 0 := hK.2.1.trans h0
    exact ct_mOccurrences (dk := rDk (M 34 0)) (fr := rFr (M 34 0)) (pop := rPop (M 34 0)) (bnd := rBnd (M 34 0)) (nd := M 33 0 5) (ni := M 33 0 6) (sg := M 34 0 52) (ln := M 34 0 53) (hI := fun q => absurd q (by omega)) (hl := Or.inl g0) (k1 := fun _ => mp1 hK) (k2 := fun q => absurd q (by omega)) (k3 := fun q => absurd q (by omega)) (ha := hK.a2) (hit := hK.a6) (hdi := hK.a5) (hcl := hK.a7)
  · refine ⟨2, by simp [csA], ?_⟩
    obtain ⟨q5, q6, q7⟩ := hK.eqs h1
    have g1 : M 33 0 3 = 1 := hK.2.1.trans h1
    (try simp only [q5, q6, q7] at hb)
    exact ct_mOccurrences (dk := rDk (M 34 0)) (fr := rFr (M 34 0)) (pop := rPop (M 34 0)) (bnd := rBnd (M 34 0)) (nd := M 33 0 5) (ni := M 33 0 6) (sg := M 34 0 52) (ln := M 34 0 53) (hI := fun _ => hK.ms g1) (hl := Or.inr g1) (k1 := fun q => absurd q (by omega)) (k2 := fun _ _ => mp1 hK) (k3 := fun _ q => by exfalso; omega) (ha := hK.a2) (hit := hK.a6) (hdi := hK.a5) (hcl := hK.a7)
  · obtain ⟨q5, q6, q7⟩ := hK.eqs h1
    (try simp only [q5, q6, q7] at hg)
    obtain ⟨⟨hS, hV⟩, hH, hB⟩ := hK.cu h1
    refine ⟨_, rfl, KQ hK h1 KE.rf (C := fun M2 => bc_Call G yX9_occurrences cX9_occurrences 2 (some .int) 12 0 [vR G 33 0, vI i] M2 (MPI n 0)) (fun M2 K2 ms l3 hf h34 fo => ?_)⟩
    obtain ⟨f5, f6, f7⟩ := hf
    obtain ⟨f34, f36, f37⟩ := h34
    exact ct_mOccurrences (dk := rDk (M 34 0)) (fr := rFr (M 34 0)) (pop := rPop (M 34 0)) (bnd := rBnd (M 34 0)) (nd := M 33 0 5) (ni := M 33 0 6) (sg := M 34 0 52) (ln := M 34 0 53) (hI := fun _ => ms) (hl := Or.inr l3) (k1 := fun q => absurd q (by omega)) (k2 := fun _ q => by (try simp only [f5, f6, f7] at q); exfalso; omega) (k3 := fun _ _ M3 hQ => mpq K2 hQ (fo.trans (congrArg w32 (an_occ hS hV hB (by omega))))) (ha := K2.a2) (hit := K2.a6) (hdi := K2.a5) (hcl := K2.a7)
theorem st_emptySlots {G : bc_G} {M : bc_M} {n : Int} (hK : KK M n) (hn : n ≤ 2800) : bc_Call G yX8_emptySlots cX8_emptySlots 3 (some .int) 9 1 [vR G 1 0] M (AFI csS (fun k M2 => bc_Call G yX9_emptySlots cX9_emptySlots 1 (some .int) 12 0 [vR G 33 0] M2 (MPI n k))) := by
  refine ct_emptySlots (n := n) (hl := hK.1) (hI := hK.li) (k1 := fun h0 => ?_) (k3 := fun h1 => ?_) 
  · refine ⟨1, by simp [csS], ?_⟩
    have g0 : M 33 0 3 = 0 := hK.2.1.trans h0
    exact ct_mEmptySlots (dk := rDk (M 34 0)) (fr := rFr (M 34 0)) (pop := rPop (M 34 0)) (bnd := rBnd (M 34 0)) (nd := M 33 0 5) (ni := M 33 0 6) (sg := M 34 0 52) (ln := M 34 0 53) (hI := fun q => absurd q (by omega)) (hl := Or.inl g0) (k1 := fun _ => mp1 hK) (k3 := fun q => absurd q (by omega)) (ha := hK.a2) (hit := hK.a6) (hdi := hK.a5) (hcl := hK.a7)
  · obtain ⟨q5, q6, q7⟩ := hK.eqs h1
    obtain ⟨⟨hS, hV⟩, hH, hB⟩ := hK.cu h1
    refine ⟨_, rfl, KQ hK h1 KE.rf (C := fun M2 => bc_Call G yX9_emptySlots cX9_emptySlots 1 (some .int) 12 0 [vR G 33 0] M2 (MPI n 0)) (fun M2 K2 ms l3 hf h34 fo => ?_)⟩
    obtain ⟨f5, f6, f7⟩ := hf
    obtain ⟨f34, f36, f37⟩ := h34
    exact ct_mEmptySlots (dk := rDk (M 34 0)) (fr := rFr (M 34 0)) (pop := rPop (M 34 0)) (bnd := rBnd (M 34 0)) (nd := M 33 0 5) (ni := M 33 0 6) (sg := M 34 0 52) (ln := M 34 0 53) (hI := fun _ => ms) (hl := Or.inr l3) (k1 := fun q => absurd q (by omega)) (k3 := fun _ M3 hQ hML => mpq K2 hQ (fo.trans (congrArg w32 (an_emp hS hV hB hML.2.1 hML.2.2)))) (ha := K2.a2) (hit := K2.a6) (hdi := K2.a5) (hcl := K2.a7)
theorem st_gap {G : bc_G} {M : bc_M} {n i : Int} (h_i : -2147483648 ≤ i ∧ i < 2147483648) (hK : KK M n) (hn : n ≤ 2800) : bc_Call G yX8_gap cX8_gap 2 (some .int) 9 2 [vR G 1 0, vI i] M (AFI csA (fun k M2 => bc_Call G yX9_gap cX9_gap 2 (some .int) 12 0 [vR G 33 0, vI i] M2 (MPI n k))) := by
  refine ct_gap (n := n) (hl := hK.1) (hI := hK.li) (k1 := fun h0 => ?_) (k2 := fun h1 hb => ?_) (k3 := fun h1 hg => ?_) h_i
  · refine ⟨1, by simp [csA], ?_⟩
    have g0 : M 33 0 3 = 0 := hK.2.1.trans h0
    exact ct_mGap (dk := rDk (M 34 0)) (fr := rFr (M 34 0)) (pop := rPop (M 34 0)) (bnd := rBnd (M 34 0)) (nd := M 33 0 5) (ni := M 33 0 6) (sg := M 34 0 52) (ln := M 34 0 53) (hI := fun q => absurd q (by omega)) (hl := Or.inl g0) (k1 := fun _ => mp1 hK) (k2 := fun q => absurd q (by omega)) (k3 := fun q => absurd q (by omega)) (ha := hK.a2) (hit := hK.a6) (hdi := hK.a5) (hcl := hK.a7)
  · refine ⟨2, by simp [csA], ?_⟩
    obtain ⟨q5, q6, q7⟩ := hK.eqs h1
    have g1 : M 33 0 3 = 1 := hK.2.1.trans h1
    (try simp only [q5, q6, q7] at hb)
    exact ct_mGap (dk := rDk (M 34 0)) (fr := rFr (M 34 0)) (pop := rPop (M 34 0)) (bnd := rBnd (M 34 0)) (nd := M 33 0 5) (ni := M 33 0 6) (sg := M 34 0 52) (ln := M 34 0 53) (hI := fun _ => hK.ms g1) (hl := Or.inr g1) (k1 := fun q => absurd q (by omega)) (k2 := fun _ _ => mp1 hK) (k3 := fun _ q => by exfalso; omega) (ha := hK.a2) (hit := hK.a6) (hdi := hK.a5) (hcl := hK.a7)
  · obtain ⟨q5, q6, q7⟩ := hK.eqs h1
    (try simp only [q5, q6, q7] at hg)
    obtain ⟨⟨hS, hV⟩, hH, hB⟩ := hK.cu h1
    refine ⟨_, rfl, KQ hK h1 KE.rf (C := fun M2 => bc_Call G yX9_gap cX9_gap 2 (some .int) 12 0 [vR G 33 0, vI i] M2 (MPI n 0)) (fun M2 K2 ms l3 hf h34 fo => ?_)⟩
    obtain ⟨f5, f6, f7⟩ := hf
    obtain ⟨f34, f36, f37⟩ := h34
    exact ct_mGap (dk := rDk (M 34 0)) (fr := rFr (M 34 0)) (pop := rPop (M 34 0)) (bnd := rBnd (M 34 0)) (nd := M 33 0 5) (ni := M 33 0 6) (sg := M 34 0 52) (ln := M 34 0 53) (hI := fun _ => ms) (hl := Or.inr l3) (k1 := fun q => absurd q (by omega)) (k2 := fun _ q => by (try simp only [f5, f6, f7] at q); exfalso; omega) (k3 := fun _ _ M3 hQ => mpq K2 hQ (fo.trans (congrArg w32 (an_gap hS hV hB (by omega))))) (ha := K2.a2) (hit := K2.a6) (hdi := K2.a5) (hcl := K2.a7)
theorem st_violations {G : bc_G} {M : bc_M} {n : Int} (hK : KK M n) (hn : n ≤ 2800) : bc_Call G yX8_violations cX8_violations 1 (some .int) 9 1 [vR G 1 0] M (AFI csS (fun k M2 => bc_Call G yX9_violations cX9_violations 1 (some .int) 12 0 [vR G 33 0] M2 (MPI n k))) := by
  refine ct_violations (n := n) (hl := hK.1) (hI := hK.li) (k1 := fun h0 => ?_) (k3 := fun h1 => ?_) 
  · refine ⟨1, by simp [csS], ?_⟩
    have g0 : M 33 0 3 = 0 := hK.2.1.trans h0
    exact ct_mViolations (dk := rDk (M 34 0)) (fr := rFr (M 34 0)) (pop := rPop (M 34 0)) (bnd := rBnd (M 34 0)) (nd := M 33 0 5) (ni := M 33 0 6) (sg := M 34 0 52) (ln := M 34 0 53) (hI := fun q => absurd q (by omega)) (hl := Or.inl g0) (k1 := fun _ => mp1 hK) (k3 := fun q => absurd q (by omega)) (ha := hK.a2) (hit := hK.a6) (hdi := hK.a5) (hcl := hK.a7)
  · obtain ⟨q5, q6, q7⟩ := hK.eqs h1
    obtain ⟨⟨hS, hV⟩, hH, hB⟩ := hK.cu h1
    refine ⟨_, rfl, KQ hK h1 KE.rf (C := fun M2 => bc_Call G yX9_violations cX9_violations 1 (some .int) 12 0 [vR G 33 0] M2 (MPI n 0)) (fun M2 K2 ms l3 hf h34 fo => ?_)⟩
    obtain ⟨f5, f6, f7⟩ := hf
    obtain ⟨f34, f36, f37⟩ := h34
    exact ct_mViolations (dk := rDk (M 34 0)) (fr := rFr (M 34 0)) (pop := rPop (M 34 0)) (bnd := rBnd (M 34 0)) (nd := M 33 0 5) (ni := M 33 0 6) (sg := M 34 0 52) (ln := M 34 0 53) (hI := fun _ => ms) (hl := Or.inr l3) (k1 := fun q => absurd q (by omega)) (k3 := fun _ M3 hQ => mpq K2 hQ (fo.trans (congrArg w32 (an_viol hS hV hB)))) (ha := K2.a2) (hit := K2.a6) (hdi := K2.a5) (hcl := K2.a7)
theorem st_nextTime {G : bc_G} {M : bc_M} {n i t : Int} (h_i : -2147483648 ≤ i ∧ i < 2147483648) (h_t : -2147483648 ≤ t ∧ t < 2147483648) (hK : KK M n) (hn : n ≤ 2800) : bc_Call G yX8_nextTime cX8_nextTime 3 (some .int) 9 3 [vR G 1 0, vI i, vI t] M (AFI csA (fun k M2 => bc_Call G yX9_nextTime cX9_nextTime 3 (some .int) 12 0 [vR G 33 0, vI i, vI t] M2 (MPI n k))) := by
  refine ct_nextTime (n := n) (hl := hK.1) (hI := hK.li) (k1 := fun h0 => ?_) (k2 := fun h1 hb => ?_) (k3 := fun h1 hg => ?_) h_i h_t
  · refine ⟨1, by simp [csA], ?_⟩
    have g0 : M 33 0 3 = 0 := hK.2.1.trans h0
    exact ct_mNextTime (dk := rDk (M 34 0)) (fr := rFr (M 34 0)) (pop := rPop (M 34 0)) (bnd := rBnd (M 34 0)) (nd := M 33 0 5) (ni := M 33 0 6) (sg := M 34 0 52) (ln := M 34 0 53) (hI := fun q => absurd q (by omega)) (hl := Or.inl g0) (k1 := fun _ => mp1 hK) (k2 := fun q => absurd q (by omega)) (k3 := fun q => absurd q (by omega)) (ha := hK.a2) (hit := hK.a6) (hdi := hK.a5) (hcl := hK.a7)
  · refine ⟨2, by simp [csA], ?_⟩
    obtain ⟨q5, q6, q7⟩ := hK.eqs h1
    have g1 : M 33 0 3 = 1 := hK.2.1.trans h1
    (try simp only [q5, q6, q7] at hb)
    exact ct_mNextTime (dk := rDk (M 34 0)) (fr := rFr (M 34 0)) (pop := rPop (M 34 0)) (bnd := rBnd (M 34 0)) (nd := M 33 0 5) (ni := M 33 0 6) (sg := M 34 0 52) (ln := M 34 0 53) (hI := fun _ => hK.ms g1) (hl := Or.inr g1) (k1 := fun q => absurd q (by omega)) (k2 := fun _ _ => mp1 hK) (k3 := fun _ q => by exfalso; omega) (ha := hK.a2) (hit := hK.a6) (hdi := hK.a5) (hcl := hK.a7)
  · obtain ⟨q5, q6, q7⟩ := hK.eqs h1
    (try simp only [q5, q6, q7] at hg)
    obtain ⟨⟨hS, hV⟩, hH, hB⟩ := hK.cu h1
    refine ⟨_, rfl, KQ hK h1 KE.rf (C := fun M2 => bc_Call G yX9_nextTime cX9_nextTime 3 (some .int) 12 0 [vR G 33 0, vI i, vI t] M2 (MPI n 0)) (fun M2 K2 ms l3 hf h34 fo => ?_)⟩
    obtain ⟨f5, f6, f7⟩ := hf
    obtain ⟨f34, f36, f37⟩ := h34
    exact ct_mNextTime (dk := rDk (M 34 0)) (fr := rFr (M 34 0)) (pop := rPop (M 34 0)) (bnd := rBnd (M 34 0)) (nd := M 33 0 5) (ni := M 33 0 6) (sg := M 34 0 52) (ln := M 34 0 53) (hI := fun _ => ms) (hl := Or.inr l3) (k1 := fun q => absurd q (by omega)) (k2 := fun _ q => by (try simp only [f5, f6, f7] at q); exfalso; omega) (k3 := fun _ _ M3 hQ => mpq K2 hQ (fo.trans (congrArg w32 (an_next hS hV hB (by omega))))) (ha := K2.a2) (hit := K2.a6) (hdi := K2.a5) (hcl := K2.a7)
theorem st_share {G : bc_G} {M : bc_M} {n i : Int} (h_i : -2147483648 ≤ i ∧ i < 2147483648) (hK : KK M n) (hn : n ≤ 2800) : bc_Call G yX8_share cX8_share 2 (some .double) 9 2 [vR G 1 0, vI i] M (AFD csA (fun k M2 => bc_Call G yX9_share cX9_share 2 (some .double) 12 0 [vR G 33 0, vI i] M2 (MPD n k))) := by
  refine ct_share (n := n) (hl := hK.1) (hI := hK.li) (k1 := fun h0 => ?_) (k2 := fun h1 hb => ?_) (k3 := fun h1 hg => ?_) h_i
  · refine ⟨1, by simp [csA], ?_⟩
    have g0 : M 33 0 3 = 0 := hK.2.1.trans h0
    exact ct_mShare (dk := rDk (M 34 0)) (fr := rFr (M 34 0)) (pop := rPop (M 34 0)) (bnd := rBnd (M 34 0)) (nd := M 33 0 5) (ni := M 33 0 6) (sg := M 34 0 52) (ln := M 34 0 53) (hI := fun q => absurd q (by omega)) (hl := Or.inl g0) (k1 := fun _ => mp1D hK) (k2 := fun q => absurd q (by omega)) (k3 := fun q => absurd q (by omega)) (ha := hK.a2) (hit := hK.a6) (hdi := hK.a5) (hcl := hK.a7)
  · refine ⟨2, by simp [csA], ?_⟩
    obtain ⟨q5, q6, q7⟩ := hK.eqs h1
    have g1 : M 33 0 3 = 1 := hK.2.1.trans h1
    (try simp only [q5, q6, q7] at hb)
    exact ct_mShare (dk := rDk (M 34 0)) (fr := rFr (M 34 0)) (pop := rPop (M 34 0)) (bnd := rBnd (M 34 0)) (nd := M 33 0 5) (ni := M 33 0 6) (sg := M 34 0 52) (ln := M 34 0 53) (hI := fun _ => hK.ms g1) (hl := Or.inr g1) (k1 := fun q => absurd q (by omega)) (k2 := fun _ _ => mp1D hK) (k3 := fun _ q => by exfalso; omega) (ha := hK.a2) (hit := hK.a6) (hdi := hK.a5) (hcl := hK.a7)
  · obtain ⟨q5, q6, q7⟩ := hK.eqs h1
    (try simp only [q5, q6, q7] at hg)
    obtain ⟨⟨hS, hV⟩, hH, hB⟩ := hK.cu h1
    refine ⟨_, rfl, KQD hK h1 KE.rf (C := fun M2 => bc_Call G yX9_share cX9_share 2 (some .double) 12 0 [vR G 33 0, vI i] M2 (MPD n 0)) (fun M2 K2 ms l3 hf h34 fo => ?_)⟩
    obtain ⟨f5, f6, f7⟩ := hf
    obtain ⟨f34, f36, f37⟩ := h34
    exact ct_mShare (dk := rDk (M 34 0)) (fr := rFr (M 34 0)) (pop := rPop (M 34 0)) (bnd := rBnd (M 34 0)) (nd := M 33 0 5) (ni := M 33 0 6) (sg := M 34 0 52) (ln := M 34 0 53) (hI := fun _ => ms) (hl := Or.inr l3) (k1 := fun q => absurd q (by omega)) (k2 := fun _ q => by (try simp only [f5, f6, f7] at q); exfalso; omega) (k3 := fun _ _ M3 hQ => mpqD K2 hQ (fo.trans (congrArg (fun z : UInt64 => (z.toNat : Int)) (by rw [an_occ hS hV hB (by omega), an_cycle hS hV hB])))) (ha := K2.a2) (hit := K2.a6) (hdi := K2.a5) (hcl := K2.a7)
theorem st_accessTime {G : bc_G} {M : bc_M} {n i t : Int} (h_i : -2147483648 ≤ i ∧ i < 2147483648) (h_t : -2147483648 ≤ t ∧ t < 2147483648) (hK : KK M n) (hn : n ≤ 2800) : bc_Call G yX8_accessTime cX8_accessTime 3 (some .int) 9 3 [vR G 1 0, vI i, vI t] M (AFI csA (fun k M2 => bc_Call G yX9_accessTime cX9_accessTime 3 (some .int) 12 0 [vR G 33 0, vI i, vI t] M2 (MPI n k))) := by
  refine ct_accessTime (n := n) (hl := hK.1) (hI := hK.li) (k1 := fun h0 => ?_) (k2 := fun h1 hb => ?_) (k3 := fun h1 hg => ?_) h_i h_t
  · refine ⟨1, by simp [csA], ?_⟩
    have g0 : M 33 0 3 = 0 := hK.2.1.trans h0
    exact ct_mAccessTime (dk := rDk (M 34 0)) (fr := rFr (M 34 0)) (pop := rPop (M 34 0)) (bnd := rBnd (M 34 0)) (nd := M 33 0 5) (ni := M 33 0 6) (sg := M 34 0 52) (ln := M 34 0 53) (hI := fun q => absurd q (by omega)) (hl := Or.inl g0) (k1 := fun _ => mp1 hK) (k2 := fun q => absurd q (by omega)) (k3 := fun q => absurd q (by omega)) (ha := hK.a2) (hit := hK.a6) (hdi := hK.a5) (hcl := hK.a7)
  · refine ⟨2, by simp [csA], ?_⟩
    obtain ⟨q5, q6, q7⟩ := hK.eqs h1
    have g1 : M 33 0 3 = 1 := hK.2.1.trans h1
    (try simp only [q5, q6, q7] at hb)
    exact ct_mAccessTime (dk := rDk (M 34 0)) (fr := rFr (M 34 0)) (pop := rPop (M 34 0)) (bnd := rBnd (M 34 0)) (nd := M 33 0 5) (ni := M 33 0 6) (sg := M 34 0 52) (ln := M 34 0 53) (hI := fun _ => hK.ms g1) (hl := Or.inr g1) (k1 := fun q => absurd q (by omega)) (k2 := fun _ _ => mp1 hK) (k3 := fun _ q => by exfalso; omega) (ha := hK.a2) (hit := hK.a6) (hdi := hK.a5) (hcl := hK.a7)
  · obtain ⟨q5, q6, q7⟩ := hK.eqs h1
    (try simp only [q5, q6, q7] at hg)
    obtain ⟨⟨hS, hV⟩, hH, hB⟩ := hK.cu h1
    refine ⟨_, rfl, KQ hK h1 KE.rf (C := fun M2 => bc_Call G yX9_accessTime cX9_accessTime 3 (some .int) 12 0 [vR G 33 0, vI i, vI t] M2 (MPI n 0)) (fun M2 K2 ms l3 hf h34 fo => ?_)⟩
    obtain ⟨f5, f6, f7⟩ := hf
    obtain ⟨f34, f36, f37⟩ := h34
    exact ct_mAccessTime (dk := rDk (M 34 0)) (fr := rFr (M 34 0)) (pop := rPop (M 34 0)) (bnd := rBnd (M 34 0)) (nd := M 33 0 5) (ni := M 33 0 6) (sg := M 34 0 52) (ln := M 34 0 53) (hI := fun _ => ms) (hl := Or.inr l3) (k1 := fun q => absurd q (by omega)) (k2 := fun _ q => by (try simp only [f5, f6, f7] at q); exfalso; omega) (k3 := fun _ _ M3 hQ => mpq K2 hQ (fo.trans (congrArg w32 ((an_acc hS hV hB (by omega)).1)))) (ha := K2.a2) (hit := K2.a6) (hdi := K2.a5) (hcl := K2.a7)
theorem st_tuningTime {G : bc_G} {M : bc_M} {n i t : Int} (h_i : -2147483648 ≤ i ∧ i < 2147483648) (h_t : -2147483648 ≤ t ∧ t < 2147483648) (hK : KK M n) (hn : n ≤ 2800) : bc_Call G yX8_tuningTime cX8_tuningTime 3 (some .int) 9 3 [vR G 1 0, vI i, vI t] M (AFI csA (fun k M2 => bc_Call G yX9_tuningTime cX9_tuningTime 3 (some .int) 12 0 [vR G 33 0, vI i, vI t] M2 (MPI n k))) := by
  refine ct_tuningTime (n := n) (hl := hK.1) (hI := hK.li) (k1 := fun h0 => ?_) (k2 := fun h1 hb => ?_) (k3 := fun h1 hg => ?_) h_i h_t
  · refine ⟨1, by simp [csA], ?_⟩
    have g0 : M 33 0 3 = 0 := hK.2.1.trans h0
    exact ct_mTuningTime (dk := rDk (M 34 0)) (fr := rFr (M 34 0)) (pop := rPop (M 34 0)) (bnd := rBnd (M 34 0)) (nd := M 33 0 5) (ni := M 33 0 6) (sg := M 34 0 52) (ln := M 34 0 53) (hI := fun q => absurd q (by omega)) (hl := Or.inl g0) (k1 := fun _ => mp1 hK) (k2 := fun q => absurd q (by omega)) (k3 := fun q => absurd q (by omega)) (ha := hK.a2) (hit := hK.a6) (hdi := hK.a5) (hcl := hK.a7)
  · refine ⟨2, by simp [csA], ?_⟩
    obtain ⟨q5, q6, q7⟩ := hK.eqs h1
    have g1 : M 33 0 3 = 1 := hK.2.1.trans h1
    (try simp only [q5, q6, q7] at hb)
    exact ct_mTuningTime (dk := rDk (M 34 0)) (fr := rFr (M 34 0)) (pop := rPop (M 34 0)) (bnd := rBnd (M 34 0)) (nd := M 33 0 5) (ni := M 33 0 6) (sg := M 34 0 52) (ln := M 34 0 53) (hI := fun _ => hK.ms g1) (hl := Or.inr g1) (k1 := fun q => absurd q (by omega)) (k2 := fun _ _ => mp1 hK) (k3 := fun _ q => by exfalso; omega) (ha := hK.a2) (hit := hK.a6) (hdi := hK.a5) (hcl := hK.a7)
  · obtain ⟨q5, q6, q7⟩ := hK.eqs h1
    (try simp only [q5, q6, q7] at hg)
    obtain ⟨⟨hS, hV⟩, hH, hB⟩ := hK.cu h1
    refine ⟨_, rfl, KQ hK h1 KE.rf (C := fun M2 => bc_Call G yX9_tuningTime cX9_tuningTime 3 (some .int) 12 0 [vR G 33 0, vI i, vI t] M2 (MPI n 0)) (fun M2 K2 ms l3 hf h34 fo => ?_)⟩
    obtain ⟨f5, f6, f7⟩ := hf
    obtain ⟨f34, f36, f37⟩ := h34
    exact ct_mTuningTime (dk := rDk (M 34 0)) (fr := rFr (M 34 0)) (pop := rPop (M 34 0)) (bnd := rBnd (M 34 0)) (nd := M 33 0 5) (ni := M 33 0 6) (sg := M 34 0 52) (ln := M 34 0 53) (hI := fun _ => ms) (hl := Or.inr l3) (k1 := fun q => absurd q (by omega)) (k2 := fun _ q => by (try simp only [f5, f6, f7] at q); exfalso; omega) (k3 := fun _ _ M3 hQ => mpq K2 hQ (fo.trans (congrArg w32 ((an_acc hS hV hB (by omega)).2)))) (ha := K2.a2) (hit := K2.a6) (hdi := K2.a5) (hcl := K2.a7)
theorem st_worstAccess {G : bc_G} {M : bc_M} {n i : Int} (h_i : -2147483648 ≤ i ∧ i < 2147483648) (hK : KK M n) (hn : n ≤ 2800) : bc_Call G yX8_worstAccess cX8_worstAccess 4 (some .int) 9 2 [vR G 1 0, vI i] M (AFI csA (fun k M2 => bc_Call G yX9_worstAccess cX9_worstAccess 4 (some .int) 12 0 [vR G 33 0, vI i] M2 (MPI n k))) := by
  refine ct_worstAccess (n := n) (hl := hK.1) (hI := hK.li) (k1 := fun h0 => ?_) (k2 := fun h1 hb => ?_) (k3 := fun h1 hg => ?_) h_i
  · refine ⟨1, by simp [csA], ?_⟩
    have g0 : M 33 0 3 = 0 := hK.2.1.trans h0
    exact ct_mWorstAccess (dk := rDk (M 34 0)) (fr := rFr (M 34 0)) (pop := rPop (M 34 0)) (bnd := rBnd (M 34 0)) (nd := M 33 0 5) (ni := M 33 0 6) (sg := M 34 0 52) (ln := M 34 0 53) (hI := fun q => absurd q (by omega)) (hl := Or.inl g0) (k1 := fun _ => mp1 hK) (k2 := fun q => absurd q (by omega)) (k3 := fun q => absurd q (by omega)) (ha := hK.a2) (hit := hK.a6) (hdi := hK.a5) (hcl := hK.a7)
  · refine ⟨2, by simp [csA], ?_⟩
    obtain ⟨q5, q6, q7⟩ := hK.eqs h1
    have g1 : M 33 0 3 = 1 := hK.2.1.trans h1
    (try simp only [q5, q6, q7] at hb)
    exact ct_mWorstAccess (dk := rDk (M 34 0)) (fr := rFr (M 34 0)) (pop := rPop (M 34 0)) (bnd := rBnd (M 34 0)) (nd := M 33 0 5) (ni := M 33 0 6) (sg := M 34 0 52) (ln := M 34 0 53) (hI := fun _ => hK.ms g1) (hl := Or.inr g1) (k1 := fun q => absurd q (by omega)) (k2 := fun _ _ => mp1 hK) (k3 := fun _ q => by exfalso; omega) (ha := hK.a2) (hit := hK.a6) (hdi := hK.a5) (hcl := hK.a7)
  · obtain ⟨q5, q6, q7⟩ := hK.eqs h1
    (try simp only [q5, q6, q7] at hg)
    obtain ⟨⟨hS, hV⟩, hH, hB⟩ := hK.cu h1
    refine ⟨_, rfl, KQ hK h1 KE.rf (C := fun M2 => bc_Call G yX9_worstAccess cX9_worstAccess 4 (some .int) 12 0 [vR G 33 0, vI i] M2 (MPI n 0)) (fun M2 K2 ms l3 hf h34 fo => ?_)⟩
    obtain ⟨f5, f6, f7⟩ := hf
    obtain ⟨f34, f36, f37⟩ := h34
    exact ct_mWorstAccess (dk := rDk (M 34 0)) (fr := rFr (M 34 0)) (pop := rPop (M 34 0)) (bnd := rBnd (M 34 0)) (nd := M 33 0 5) (ni := M 33 0 6) (sg := M 34 0 52) (ln := M 34 0 53) (hI := fun _ => ms) (hl := Or.inr l3) (k1 := fun q => absurd q (by omega)) (k2 := fun _ q => by (try simp only [f5, f6, f7] at q); exfalso; omega) (k3 := fun _ _ M3 hQ => mpq K2 hQ (fo.trans (congrArg w32 (an_worst hS hV hB (by omega))))) (ha := K2.a2) (hit := K2.a6) (hdi := K2.a5) (hcl := K2.a7)
theorem st_weight {G : bc_G} {M : bc_M} {n f : Int} (h_f : -2147483648 ≤ f ∧ f < 2147483648) (hK : KK M n) (hn : n ≤ 2800) : bc_Call G yX8_weight cX8_weight 2 (some .long) 9 2 [vR G 1 0, vI f] M (AFJ csA (fun k M2 => bc_Call G yX9_weight cX9_weight 2 (some .long) 12 0 [vR G 33 0, vI f] M2 (MPJ n k))) := by
  refine ct_weight (n := n) (hl := hK.1) (hI := hK.li) (k1 := fun h0 => ?_) (k2 := fun h1 hb => ?_) (k3 := fun h1 hg => ?_) h_f
  · refine ⟨1, by simp [csA], ?_⟩
    have g0 : M 33 0 3 = 0 := hK.2.1.trans h0
    exact ct_mWeight (dk := rDk (M 34 0)) (fr := rFr (M 34 0)) (pop := rPop (M 34 0)) (bnd := rBnd (M 34 0)) (nd := M 33 0 5) (ni := M 33 0 6) (sg := M 34 0 52) (ln := M 34 0 53) (hI := fun q => absurd q (by omega)) (hl := Or.inl g0) (k1 := fun _ => mp1J hK) (k2 := fun q => absurd q (by omega)) (k3 := fun q => absurd q (by omega)) (ha := hK.a2) (hit := hK.a6) (hdi := hK.a5) (hcl := hK.a7)
  · refine ⟨2, by simp [csA], ?_⟩
    obtain ⟨q5, q6, q7⟩ := hK.eqs h1
    have g1 : M 33 0 3 = 1 := hK.2.1.trans h1
    (try simp only [q5, q6, q7] at hb)
    exact ct_mWeight (dk := rDk (M 34 0)) (fr := rFr (M 34 0)) (pop := rPop (M 34 0)) (bnd := rBnd (M 34 0)) (nd := M 33 0 5) (ni := M 33 0 6) (sg := M 34 0 52) (ln := M 34 0 53) (hI := fun _ => hK.ms g1) (hl := Or.inr g1) (k1 := fun q => absurd q (by omega)) (k2 := fun _ _ => mp1J hK) (k3 := fun _ q => by exfalso; omega) (ha := hK.a2) (hit := hK.a6) (hdi := hK.a5) (hcl := hK.a7)
  · obtain ⟨q5, q6, q7⟩ := hK.eqs h1
    (try simp only [q5, q6, q7] at hg)
    obtain ⟨⟨hS, hV⟩, hH, hB⟩ := hK.cu h1
    refine ⟨_, rfl, KQ hK h1 KE.rf (C := fun M2 => bc_Call G yX9_weight cX9_weight 2 (some .long) 12 0 [vR G 33 0, vI f] M2 (MPJ n 0)) (fun M2 K2 ms l3 hf h34 fo => ?_)⟩
    obtain ⟨f5, f6, f7⟩ := hf
    obtain ⟨f34, f36, f37⟩ := h34
    exact ct_mWeight (dk := rDk (M 34 0)) (fr := rFr (M 34 0)) (pop := rPop (M 34 0)) (bnd := rBnd (M 34 0)) (nd := M 33 0 5) (ni := M 33 0 6) (sg := M 34 0 52) (ln := M 34 0 53) (hI := fun _ => ms) (hl := Or.inr l3) (k1 := fun q => absurd q (by omega)) (k2 := fun _ q => by (try simp only [f5, f6, f7] at q); exfalso; omega) (k3 := fun _ _ M3 hQ => mpqJ K2 hQ (fo.trans (an_weight hS hV hB))) (ha := K2.a2) (hit := K2.a6) (hdi := K2.a5) (hcl := K2.a7)
theorem st_meanAccess {G : bc_G} {M : bc_M} {n i : Int} (h_i : -2147483648 ≤ i ∧ i < 2147483648) (hK : KK M n) (hn : n ≤ 2800) : bc_Call G yX8_meanAccess cX8_meanAccess 2 (some .double) 9 2 [vR G 1 0, vI i] M (AFD csA (fun k M2 => bc_Call G yX9_meanAccess cX9_meanAccess 5 (some .double) 12 0 [vR G 33 0, vI i] M2 (MPD n k))) := by
  refine ct_meanAccess (n := n) (hl := hK.1) (hI := hK.li) (k1 := fun h0 => ?_) (k2 := fun h1 hb => ?_) (k3 := fun h1 hg => ?_) h_i
  · refine ⟨1, by simp [csA], ?_⟩
    have g0 : M 33 0 3 = 0 := hK.2.1.trans h0
    exact ct_mMeanAccess (dk := rDk (M 34 0)) (fr := rFr (M 34 0)) (pop := rPop (M 34 0)) (bnd := rBnd (M 34 0)) (nd := M 33 0 5) (ni := M 33 0 6) (sg := M 34 0 52) (ln := M 34 0 53) (hI := fun q => absurd q (by omega)) (hl := Or.inl g0) (k1 := fun _ => mp1D hK) (k2 := fun q => absurd q (by omega)) (k3 := fun q => absurd q (by omega)) (ha := hK.a2) (hit := hK.a6) (hdi := hK.a5) (hcl := hK.a7)
  · refine ⟨2, by simp [csA], ?_⟩
    obtain ⟨q5, q6, q7⟩ := hK.eqs h1
    have g1 : M 33 0 3 = 1 := hK.2.1.trans h1
    (try simp only [q5, q6, q7] at hb)
    exact ct_mMeanAccess (dk := rDk (M 34 0)) (fr := rFr (M 34 0)) (pop := rPop (M 34 0)) (bnd := rBnd (M 34 0)) (nd := M 33 0 5) (ni := M 33 0 6) (sg := M 34 0 52) (ln := M 34 0 53) (hI := fun _ => hK.ms g1) (hl := Or.inr g1) (k1 := fun q => absurd q (by omega)) (k2 := fun _ _ => mp1D hK) (k3 := fun _ q => by exfalso; omega) (ha := hK.a2) (hit := hK.a6) (hdi := hK.a5) (hcl := hK.a7)
  · obtain ⟨q5, q6, q7⟩ := hK.eqs h1
    (try simp only [q5, q6, q7] at hg)
    obtain ⟨⟨hS, hV⟩, hH, hB⟩ := hK.cu h1
    refine ⟨_, rfl, KQD hK h1 KE.rf (C := fun M2 => bc_Call G yX9_meanAccess cX9_meanAccess 5 (some .double) 12 0 [vR G 33 0, vI i] M2 (MPD n 0)) (fun M2 K2 ms l3 hf h34 fo => ?_)⟩
    obtain ⟨f5, f6, f7⟩ := hf
    obtain ⟨f34, f36, f37⟩ := h34
    exact ct_mMeanAccess (dk := rDk (M 34 0)) (fr := rFr (M 34 0)) (pop := rPop (M 34 0)) (bnd := rBnd (M 34 0)) (nd := M 33 0 5) (ni := M 33 0 6) (sg := M 34 0 52) (ln := M 34 0 53) (hI := fun _ => ms) (hl := Or.inr l3) (k1 := fun q => absurd q (by omega)) (k2 := fun _ q => by (try simp only [f5, f6, f7] at q); exfalso; omega) (k3 := fun _ _ M3 hQ => mpqD K2 hQ (fo.trans (congrArg (fun z : UInt64 => (z.toNat : Int)) (by rw [an_mean hS hV hB (by omega), an_cycle hS hV hB])))) (ha := K2.a2) (hit := K2.a6) (hdi := K2.a5) (hcl := K2.a7)
theorem st_bestSegments {G : bc_G} {M : bc_M} {n f : Int} (h_f : -2147483648 ≤ f ∧ f < 2147483648) (hK : KK M n) (hn : n ≤ 2800) : bc_Call G yX8_bestSegments cX8_bestSegments 9 (some .int) 9 2 [vR G 1 0, vI f] M (AFI csA (fun k M2 => bc_Call G yX9_bestSegments cX9_bestSegments 11 (some .int) 12 0 [vR G 33 0, vI f] M2 (MPI n k))) := by
  refine ct_bestSegments (n := n) (hl := hK.1) (hI := hK.li) (k1 := fun h0 => ?_) (k2 := fun h1 hb => ?_) (k3 := fun h1 hg M' hF => ?_) h_f
  · refine ⟨1, by simp [csA], ?_⟩
    have g0 : M 33 0 3 = 0 := hK.2.1.trans h0
    exact ct_mBestSegments (dk := rDk (M 34 0)) (fr := rFr (M 34 0)) (pop := rPop (M 34 0)) (bnd := rBnd (M 34 0)) (nd := M 33 0 5) (ni := M 33 0 6) (sg := M 34 0 52) (ln := M 34 0 53) (hI := fun q => absurd q (by omega)) (hl := Or.inl g0) (k1 := fun _ => mp1 hK) (k2 := fun q => absurd q (by omega)) (k3 := fun q => absurd q (by omega)) (ha := hK.a2) (hit := hK.a6) (hdi := hK.a5) (hcl := hK.a7)
  · refine ⟨2, by simp [csA], ?_⟩
    obtain ⟨q5, q6, q7⟩ := hK.eqs h1
    have g1 : M 33 0 3 = 1 := hK.2.1.trans h1
    (try simp only [q5, q6, q7] at hb)
    exact ct_mBestSegments (dk := rDk (M 34 0)) (fr := rFr (M 34 0)) (pop := rPop (M 34 0)) (bnd := rBnd (M 34 0)) (nd := M 33 0 5) (ni := M 33 0 6) (sg := M 34 0 52) (ln := M 34 0 53) (hI := fun _ => hK.ms g1) (hl := Or.inr g1) (k1 := fun q => absurd q (by omega)) (k2 := fun _ _ => mp1 hK) (k3 := fun _ q => by exfalso; omega) (ha := hK.a2) (hit := hK.a6) (hdi := hK.a5) (hcl := hK.a7)
  · obtain ⟨q5, q6, q7⟩ := hK.eqs h1
    (try simp only [q5, q6, q7] at hg)
    obtain ⟨⟨hS, hV⟩, hH, hB⟩ := hK.cu h1
    refine ⟨_, rfl, KQ hK h1 (KE.ftr hF) (C := fun M2 => bc_Call G yX9_bestSegments cX9_bestSegments 11 (some .int) 12 0 [vR G 33 0, vI f] M2 (MPI n 0)) (fun M2 K2 ms l3 hf h34 fo => ?_)⟩
    obtain ⟨f5, f6, f7⟩ := hf
    obtain ⟨f34, f36, f37⟩ := h34
    exact ct_mBestSegments (dk := rDk (M 34 0)) (fr := rFr (M 34 0)) (pop := rPop (M 34 0)) (bnd := rBnd (M 34 0)) (nd := M 33 0 5) (ni := M 33 0 6) (sg := M 34 0 52) (ln := M 34 0 53) (hI := fun _ => ms) (hl := Or.inr l3) (k1 := fun q => absurd q (by omega)) (k2 := fun _ q => by (try simp only [f5, f6, f7] at q); exfalso; omega) (k3 := fun _ _ M3 hQ => mpq K2 hQ (fo.trans (congrArg w32 (an_segs hS hV)))) (ha := K2.a2) (hit := K2.a6) (hdi := K2.a5) (hcl := K2.a7)
theorem st_worstTime {G : bc_G} {M : bc_M} {n s : Int} (h_s : -2147483648 ≤ s ∧ s < 2147483648) (hK : KK M n) (hn : n ≤ 2800) : bc_Call G yX8_worstTime cX8_worstTime 6 (some .int) 9 3 [vR G 1 0, vI s] M (AFI csA (fun k M2 => bc_Call G yX9_worstTime cX9_worstTime 4 (some .int) 12 0 [vR G 33 0, vI s] M2 (MPI n k))) := by
  refine ct_worstTime (n := n) (hl := hK.1) (hI := hK.li) (k1 := fun h0 => ?_) (k2 := fun h1 hb => ?_) (k3 := fun h1 hg => ?_) h_s
  · refine ⟨1, by simp [csA], ?_⟩
    have g0 : M 33 0 3 = 0 := hK.2.1.trans h0
    exact ct_mWorstTime (dk := rDk (M 34 0)) (fr := rFr (M 34 0)) (pop := rPop (M 34 0)) (bnd := rBnd (M 34 0)) (nd := M 33 0 5) (ni := M 33 0 6) (sg := M 34 0 52) (ln := M 34 0 53) (hI := fun q => absurd q (by omega)) (hl := Or.inl g0) (k1 := fun _ => mp1 hK) (k2 := fun q => absurd q (by omega)) (k3 := fun q => absurd q (by omega)) (ha := hK.a2) (hit := hK.a6) (hdi := hK.a5) (hcl := hK.a7)
  · refine ⟨2, by simp [csA], ?_⟩
    obtain ⟨q5, q6, q7⟩ := hK.eqs h1
    have g1 : M 33 0 3 = 1 := hK.2.1.trans h1
    (try simp only [q5, q6, q7] at hb)
    have hcr := bs_cnt_rng s 16
    have hpr := p2_rng hK.a6
    have hcp : 1 ≤ s → s < 65536 → 1 ≤ bs_cnt s 16 := fun a b => bs_cnt_pos (by omega) b
    exact ct_mWorstTime (dk := rDk (M 34 0)) (fr := rFr (M 34 0)) (pop := rPop (M 34 0)) (bnd := rBnd (M 34 0)) (nd := M 33 0 5) (ni := M 33 0 6) (sg := M 34 0 52) (ln := M 34 0 53) (hI := fun _ => hK.ms g1) (hl := Or.inr g1) (k1 := fun q => absurd q (by omega)) (k2 := fun _ _ => mp1 hK) (k3 := fun _ q => by exfalso; omega) (ha := hK.a2) (hit := hK.a6) (hdi := hK.a5) (hcl := hK.a7)
  · obtain ⟨q5, q6, q7⟩ := hK.eqs h1
    (try simp only [q5, q6, q7] at hg)
    obtain ⟨⟨hS, hV⟩, hH, hB⟩ := hK.cu h1
    have hcr := bs_cnt_rng s 16
    have hpr := p2_rng hK.a6
    have hcp : 1 ≤ s → s < 65536 → 1 ≤ bs_cnt s 16 := fun a b => bs_cnt_pos (by omega) b
    refine ⟨_, rfl, KQ hK h1 KE.rf (C := fun M2 => bc_Call G yX9_worstTime cX9_worstTime 4 (some .int) 12 0 [vR G 33 0, vI s] M2 (MPI n 0)) (fun M2 K2 ms l3 hf h34 fo => ?_)⟩
    obtain ⟨f5, f6, f7⟩ := hf
    obtain ⟨f34, f36, f37⟩ := h34
    exact ct_mWorstTime (dk := rDk (M 34 0)) (fr := rFr (M 34 0)) (pop := rPop (M 34 0)) (bnd := rBnd (M 34 0)) (nd := M 33 0 5) (ni := M 33 0 6) (sg := M 34 0 52) (ln := M 34 0 53) (hI := fun _ => ms) (hl := Or.inr l3) (k1 := fun q => absurd q (by omega)) (k2 := fun _ q => by (try simp only [f5, f6, f7] at q); exfalso; omega) (k3 := fun _ _ M3 hQ => mpq K2 hQ (fo.trans (congrArg w32 (an_wt hS hV hB)))) (ha := K2.a2) (hit := K2.a6) (hdi := K2.a5) (hcl := K2.a7)
theorem st_leastWorth {G : bc_G} {M : bc_M} {n : Int} (hK : KK M n) (hn : n ≤ 2800) : bc_Call G yX8_leastWorth cX8_leastWorth 4 (some .int) 9 1 [vR G 1 0] M (AFI csS (fun k M2 => bc_Call G yX9_leastWorth cX9_leastWorth 3 (some .int) 12 0 [vR G 33 0] M2 (MPI n k))) := by
  refine ct_leastWorth (n := n) (hl := hK.1) (hI := hK.li) (k1 := fun h0 => ?_) (k3 := fun h1 => ?_) 
  · refine ⟨1, by simp [csS], ?_⟩
    have g0 : M 33 0 3 = 0 := hK.2.1.trans h0
    exact ct_mLeastWorth (dk := rDk (M 34 0)) (fr := rFr (M 34 0)) (pop := rPop (M 34 0)) (bnd := rBnd (M 34 0)) (nd := M 33 0 5) (ni := M 33 0 6) (sg := M 34 0 52) (ln := M 34 0 53) (hI := fun q => absurd q (by omega)) (hl := Or.inl g0) (k1 := fun _ => mp1 hK) (k3 := fun q => absurd q (by omega)) (ha := hK.a2) (hit := hK.a6) (hdi := hK.a5) (hcl := hK.a7)
  · obtain ⟨q5, q6, q7⟩ := hK.eqs h1
    obtain ⟨⟨hS, hV⟩, hH, hB⟩ := hK.cu h1
    refine ⟨_, rfl, KQ hK h1 KE.rf (C := fun M2 => bc_Call G yX9_leastWorth cX9_leastWorth 3 (some .int) 12 0 [vR G 33 0] M2 (MPI n 0)) (fun M2 K2 ms l3 hf h34 fo => ?_)⟩
    obtain ⟨f5, f6, f7⟩ := hf
    obtain ⟨f34, f36, f37⟩ := h34
    exact ct_mLeastWorth (dk := rDk (M 34 0)) (fr := rFr (M 34 0)) (pop := rPop (M 34 0)) (bnd := rBnd (M 34 0)) (nd := M 33 0 5) (ni := M 33 0 6) (sg := M 34 0 52) (ln := M 34 0 53) (hI := fun _ => ms) (hl := Or.inr l3) (k1 := fun q => absurd q (by omega)) (k3 := fun _ M3 hQ => mpq K2 hQ (fo.trans (congrArg w32 (an_least hS hV hB)))) (ha := K2.a2) (hit := K2.a6) (hdi := K2.a5) (hcl := K2.a7)
theorem st_itemRank {G : bc_G} {M : bc_M} {n v : Int} (h_v : -2147483648 ≤ v ∧ v < 2147483648) (hK : KK M n) (hn : n ≤ 2800) : bc_Call G yX8_itemRank cX8_itemRank 2 (some .int) 9 3 [vR G 1 0, vI v] M (AFI csN (fun k M2 => bc_Call G yX9_itemRank cX9_itemRank 3 (some .int) 12 0 [vR G 33 0, vI v] M2 (MPI n k))) := by
  refine ct_itemRank (n := n) (hl := hK.1) (hI := hK.li) (k1 := fun h0 => ?_) (k2 := fun h1 hb => ?_) (k3 := fun h1 hg hg2 => ?_) (k4 := fun h1 hg hg2 => ?_) h_v
  · refine ⟨1, by simp [csN], ?_⟩
    have g0 : M 33 0 3 = 0 := hK.2.1.trans h0
    exact ct_mItemRank (dk := rDk (M 34 0)) (fr := rFr (M 34 0)) (pop := rPop (M 34 0)) (bnd := rBnd (M 34 0)) (nd := M 33 0 5) (ni := M 33 0 6) (sg := M 34 0 52) (ln := M 34 0 53) (hI := fun q => absurd q (by omega)) (hl := Or.inl g0) (k1 := fun _ => mp1 hK) (k2 := fun q => absurd q (by omega)) (k3 := fun q => absurd q (by omega)) (k4 := fun q => absurd q (by omega)) (ha := hK.a2) (hit := hK.a6) (hdi := hK.a5) (hcl := hK.a7)
  · refine ⟨2, by simp [csN], ?_⟩
    obtain ⟨q5, q6, q7⟩ := hK.eqs h1
    have g1 : M 33 0 3 = 1 := hK.2.1.trans h1
    (try simp only [q5, q6, q7] at hb)
    exact ct_mItemRank (dk := rDk (M 34 0)) (fr := rFr (M 34 0)) (pop := rPop (M 34 0)) (bnd := rBnd (M 34 0)) (nd := M 33 0 5) (ni := M 33 0 6) (sg := M 34 0 52) (ln := M 34 0 53) (hI := fun _ => hK.ms g1) (hl := Or.inr g1) (k1 := fun q => absurd q (by omega)) (k2 := fun _ _ => mp1 hK) (k3 := fun _ q => by exfalso; omega) (k4 := fun _ q => by exfalso; omega) (ha := hK.a2) (hit := hK.a6) (hdi := hK.a5) (hcl := hK.a7)
  · obtain ⟨q5, q6, q7⟩ := hK.eqs h1
    (try simp only [q5, q6, q7] at hg)
    (try simp only [q5, q6, q7] at hg2)
    obtain ⟨⟨hS, hV⟩, hH, hB⟩ := hK.cu h1
    refine ⟨_, rfl, KQ hK h1 KE.rk (C := fun M2 => bc_Call G yX9_itemRank cX9_itemRank 3 (some .int) 12 0 [vR G 33 0, vI v] M2 (MPI n 0)) (fun M2 K2 ms l3 hf h34 fo => ?_)⟩
    obtain ⟨f5, f6, f7⟩ := hf
    obtain ⟨f34, f36, f37⟩ := h34
    exact ct_mItemRank (dk := rDk (M 34 0)) (fr := rFr (M 34 0)) (pop := rPop (M 34 0)) (bnd := rBnd (M 34 0)) (nd := M 33 0 5) (ni := M 33 0 6) (sg := M 34 0 52) (ln := M 34 0 53) (hI := fun _ => ms) (hl := Or.inr l3) (k1 := fun q => absurd q (by omega)) (k2 := fun _ q => by (try simp only [f5, f6, f7] at q); exfalso; omega) (k3 := fun _ _ _ => mpu K2 (fo.trans (congrArg w32 (((an_irank hS hV hg).1 (by omega)).1)))) (k4 := fun _ _ q => absurd q ((an_irank hS hV hg).1 (by omega)).2) (ha := K2.a2) (hit := K2.a6) (hdi := K2.a5) (hcl := K2.a7)
  · refine ⟨3, by simp [csN], ?_⟩
    obtain ⟨q5, q6, q7⟩ := hK.eqs h1
    have g1 : M 33 0 3 = 1 := hK.2.1.trans h1
    (try simp only [q5, q6, q7] at hg2)
    obtain ⟨⟨hS, hV⟩, hH, hB⟩ := hK.cu h1
    exact ct_mItemRank (dk := rDk (M 34 0)) (fr := rFr (M 34 0)) (pop := rPop (M 34 0)) (bnd := rBnd (M 34 0)) (nd := M 33 0 5) (ni := M 33 0 6) (sg := M 34 0 52) (ln := M 34 0 53) (hI := fun _ => hK.ms g1) (hl := Or.inr g1) (k1 := fun q => absurd q (by omega)) (k2 := fun _ q => by exfalso; omega) (k3 := fun _ _ q => absurd ((an_irank hS hV hg).2 (by omega)) q) (k4 := fun _ _ _ => mp1 hK) (ha := hK.a2) (hit := hK.a6) (hdi := hK.a5) (hcl := hK.a7)
theorem st_diskRank {G : bc_G} {M : bc_M} {n v : Int} (h_v : -2147483648 ≤ v ∧ v < 2147483648) (hK : KK M n) (hn : n ≤ 2800) : bc_Call G yX8_diskRank cX8_diskRank 2 (some .int) 9 3 [vR G 1 0, vI v] M (AFI csN (fun k M2 => bc_Call G yX9_diskRank cX9_diskRank 3 (some .int) 12 0 [vR G 33 0, vI v] M2 (MPI n k))) := by
  refine ct_diskRank (n := n) (hl := hK.1) (hI := hK.li) (k1 := fun h0 => ?_) (k2 := fun h1 hb => ?_) (k3 := fun h1 hg hg2 => ?_) (k4 := fun h1 hg hg2 => ?_) h_v
  · refine ⟨1, by simp [csN], ?_⟩
    have g0 : M 33 0 3 = 0 := hK.2.1.trans h0
    exact ct_mDiskRank (dk := rDk (M 34 0)) (fr := rFr (M 34 0)) (pop := rPop (M 34 0)) (bnd := rBnd (M 34 0)) (nd := M 33 0 5) (ni := M 33 0 6) (sg := M 34 0 52) (ln := M 34 0 53) (hI := fun q => absurd q (by omega)) (hl := Or.inl g0) (k1 := fun _ => mp1 hK) (k2 := fun q => absurd q (by omega)) (k3 := fun q => absurd q (by omega)) (k4 := fun q => absurd q (by omega)) (ha := hK.a2) (hit := hK.a6) (hdi := hK.a5) (hcl := hK.a7)
  · refine ⟨2, by simp [csN], ?_⟩
    obtain ⟨q5, q6, q7⟩ := hK.eqs h1
    have g1 : M 33 0 3 = 1 := hK.2.1.trans h1
    (try simp only [q5, q6, q7] at hb)
    exact ct_mDiskRank (dk := rDk (M 34 0)) (fr := rFr (M 34 0)) (pop := rPop (M 34 0)) (bnd := rBnd (M 34 0)) (nd := M 33 0 5) (ni := M 33 0 6) (sg := M 34 0 52) (ln := M 34 0 53) (hI := fun _ => hK.ms g1) (hl := Or.inr g1) (k1 := fun q => absurd q (by omega)) (k2 := fun _ _ => mp1 hK) (k3 := fun _ q => by exfalso; omega) (k4 := fun _ q => by exfalso; omega) (ha := hK.a2) (hit := hK.a6) (hdi := hK.a5) (hcl := hK.a7)
  · obtain ⟨q5, q6, q7⟩ := hK.eqs h1
    (try simp only [q5, q6, q7] at hg)
    (try simp only [q5, q6, q7] at hg2)
    obtain ⟨⟨hS, hV⟩, hH, hB⟩ := hK.cu h1
    refine ⟨_, rfl, KQ hK h1 KE.rk (C := fun M2 => bc_Call G yX9_diskRank cX9_diskRank 3 (some .int) 12 0 [vR G 33 0, vI v] M2 (MPI n 0)) (fun M2 K2 ms l3 hf h34 fo => ?_)⟩
    obtain ⟨f5, f6, f7⟩ := hf
    obtain ⟨f34, f36, f37⟩ := h34
    exact ct_mDiskRank (dk := rDk (M 34 0)) (fr := rFr (M 34 0)) (pop := rPop (M 34 0)) (bnd := rBnd (M 34 0)) (nd := M 33 0 5) (ni := M 33 0 6) (sg := M 34 0 52) (ln := M 34 0 53) (hI := fun _ => ms) (hl := Or.inr l3) (k1 := fun q => absurd q (by omega)) (k2 := fun _ q => by (try simp only [f5, f6, f7] at q); exfalso; omega) (k3 := fun _ _ _ => mpu K2 (fo.trans (congrArg w32 (((an_drank hS hV hg).1 (by omega)).1)))) (k4 := fun _ _ q => absurd q ((an_drank hS hV hg).1 (by omega)).2) (ha := K2.a2) (hit := K2.a6) (hdi := K2.a5) (hcl := K2.a7)
  · refine ⟨3, by simp [csN], ?_⟩
    obtain ⟨q5, q6, q7⟩ := hK.eqs h1
    have g1 : M 33 0 3 = 1 := hK.2.1.trans h1
    (try simp only [q5, q6, q7] at hg2)
    obtain ⟨⟨hS, hV⟩, hH, hB⟩ := hK.cu h1
    exact ct_mDiskRank (dk := rDk (M 34 0)) (fr := rFr (M 34 0)) (pop := rPop (M 34 0)) (bnd := rBnd (M 34 0)) (nd := M 33 0 5) (ni := M 33 0 6) (sg := M 34 0 52) (ln := M 34 0 53) (hI := fun _ => hK.ms g1) (hl := Or.inr g1) (k1 := fun q => absurd q (by omega)) (k2 := fun _ q => by exfalso; omega) (k3 := fun _ _ q => absurd ((an_drank hS hV hg).2 (by omega)) q) (k4 := fun _ _ _ => mp1 hK) (ha := hK.a2) (hit := hK.a6) (hdi := hK.a5) (hcl := hK.a7)
theorem st_tierSize {G : bc_G} {M : bc_M} {n q t : Int} (h_q : -2147483648 ≤ q ∧ q < 2147483648) (h_t : -2147483648 ≤ t ∧ t < 2147483648) (hK : KK M n) (hn : n ≤ 2800) : bc_Call G yX8_tierSize cX8_tierSize 3 (some .int) 9 3 [vR G 1 0, vI q, vI t] M (AFI csA (fun k M2 => bc_Call G yX9_tierSize cX9_tierSize 3 (some .int) 16 0 [vR G 33 0, vI q, vI t] M2 (MPI n k))) := by
  refine ct_tierSize (n := n) (hl := hK.1) (hI := hK.li) (k1 := fun h0 => ?_) (k2 := fun h1 hb => ?_) (k3 := fun h1 hg M' hF hF2 => ?_) h_q h_t
  · refine ⟨1, by simp [csA], ?_⟩
    have g0 : M 33 0 3 = 0 := hK.2.1.trans h0
    exact ct_mTierSize (dk := rDk (M 34 0)) (fr := rFr (M 34 0)) (pop := rPop (M 34 0)) (bnd := rBnd (M 34 0)) (nd := M 33 0 5) (ni := M 33 0 6) (sg := M 34 0 52) (ln := M 34 0 53) (hI := fun q => absurd q (by omega)) (hl := Or.inl g0) (k1 := fun _ => mp1 hK) (k2 := fun q => absurd q (by omega)) (k3 := fun q => absurd q (by omega)) (ha := hK.a2) (hit := hK.a6) (hdi := hK.a5) (hcl := hK.a7)
  · refine ⟨2, by simp [csA], ?_⟩
    obtain ⟨q5, q6, q7⟩ := hK.eqs h1
    have g1 : M 33 0 3 = 1 := hK.2.1.trans h1
    (try simp only [q5, q6, q7] at hb)
    exact ct_mTierSize (dk := rDk (M 34 0)) (fr := rFr (M 34 0)) (pop := rPop (M 34 0)) (bnd := rBnd (M 34 0)) (nd := M 33 0 5) (ni := M 33 0 6) (sg := M 34 0 52) (ln := M 34 0 53) (hI := fun _ => hK.ms g1) (hl := Or.inr g1) (k1 := fun q => absurd q (by omega)) (k2 := fun _ _ => mp1 hK) (k3 := fun _ q => by exfalso; omega) (ha := hK.a2) (hit := hK.a6) (hdi := hK.a5) (hcl := hK.a7)
  · obtain ⟨q5, q6, q7⟩ := hK.eqs h1
    (try simp only [q5, q6, q7] at hg)
    obtain ⟨⟨hS, hV⟩, hH, hB⟩ := hK.cu h1
    have hKE : KE M M' := by
      by_cases hq : M 6 1 3 < q
      · rw [hF2 hq]; exact KE.rf
      · exact KE.fdv (hF hq).1
    refine ⟨_, rfl, KQ hK h1 hKE (C := fun M2 => bc_Call G yX9_tierSize cX9_tierSize 3 (some .int) 16 0 [vR G 33 0, vI q, vI t] M2 (MPI n 0)) (fun M2 K2 ms l3 hf h34 fo => ?_)⟩
    obtain ⟨f5, f6, f7⟩ := hf
    obtain ⟨f34, f36, f37⟩ := h34
    exact ct_mTierSize (dk := rDk (M 34 0)) (fr := rFr (M 34 0)) (pop := rPop (M 34 0)) (bnd := rBnd (M 34 0)) (nd := M 33 0 5) (ni := M 33 0 6) (sg := M 34 0 52) (ln := M 34 0 53) (hI := fun _ => ms) (hl := Or.inr l3) (k1 := fun q => absurd q (by omega)) (k2 := fun _ q => by (try simp only [f5, f6, f7] at q); exfalso; omega) (k3 := fun _ _ M3 hQ => mpq K2 hQ (fo.trans (congrArg w32 (by
        rw [q6]
        by_cases hx : M 33 0 6 < q
        · rw [if_pos hx, if_pos hx]
        · rw [if_neg hx, if_neg hx]
          exact (an_tier hS hV (by omega) (by omega)).2 t (by omega) (by omega))))) (ha := K2.a2) (hit := K2.a6) (hdi := K2.a5) (hcl := K2.a7)
theorem st_tierWeight {G : bc_G} {M : bc_M} {n q : Int} (h_q : -2147483648 ≤ q ∧ q < 2147483648) (hK : KK M n) (hn : n ≤ 2800) : bc_Call G yX8_tierWeight cX8_tierWeight 2 (some .long) 9 2 [vR G 1 0, vI q] M (AFJ csA (fun k M2 => bc_Call G yX9_tierWeight cX9_tierWeight 2 (some .long) 16 0 [vR G 33 0, vI q] M2 (MPJ n k))) := by
  refine ct_tierWeight (n := n) (hl := hK.1) (hI := hK.li) (k1 := fun h0 => ?_) (k2 := fun h1 hb => ?_) (k3 := fun h1 hg M' hF hF2 => ?_) h_q
  · refine ⟨1, by simp [csA], ?_⟩
    have g0 : M 33 0 3 = 0 := hK.2.1.trans h0
    exact ct_mTierWeight (dk := rDk (M 34 0)) (fr := rFr (M 34 0)) (pop := rPop (M 34 0)) (bnd := rBnd (M 34 0)) (nd := M 33 0 5) (ni := M 33 0 6) (sg := M 34 0 52) (ln := M 34 0 53) (hI := fun q => absurd q (by omega)) (hl := Or.inl g0) (k1 := fun _ => mp1J hK) (k2 := fun q => absurd q (by omega)) (k3 := fun q => absurd q (by omega)) (ha := hK.a2) (hit := hK.a6) (hdi := hK.a5) (hcl := hK.a7)
  · refine ⟨2, by simp [csA], ?_⟩
    obtain ⟨q5, q6, q7⟩ := hK.eqs h1
    have g1 : M 33 0 3 = 1 := hK.2.1.trans h1
    (try simp only [q5, q6, q7] at hb)
    exact ct_mTierWeight (dk := rDk (M 34 0)) (fr := rFr (M 34 0)) (pop := rPop (M 34 0)) (bnd := rBnd (M 34 0)) (nd := M 33 0 5) (ni := M 33 0 6) (sg := M 34 0 52) (ln := M 34 0 53) (hI := fun _ => hK.ms g1) (hl := Or.inr g1) (k1 := fun q => absurd q (by omega)) (k2 := fun _ _ => mp1J hK) (k3 := fun _ q => by exfalso; omega) (ha := hK.a2) (hit := hK.a6) (hdi := hK.a5) (hcl := hK.a7)
  · obtain ⟨q5, q6, q7⟩ := hK.eqs h1
    (try simp only [q5, q6, q7] at hg)
    obtain ⟨⟨hS, hV⟩, hH, hB⟩ := hK.cu h1
    have hKE : KE M M' := by
      by_cases hq : M 6 1 3 < q
      · rw [hF2 hq]; exact KE.rf
      · exact KE.fdv (hF hq).1
    refine ⟨_, rfl, KQ hK h1 hKE (C := fun M2 => bc_Call G yX9_tierWeight cX9_tierWeight 2 (some .long) 16 0 [vR G 33 0, vI q] M2 (MPJ n 0)) (fun M2 K2 ms l3 hf h34 fo => ?_)⟩
    obtain ⟨f5, f6, f7⟩ := hf
    obtain ⟨f34, f36, f37⟩ := h34
    exact ct_mTierWeight (dk := rDk (M 34 0)) (fr := rFr (M 34 0)) (pop := rPop (M 34 0)) (bnd := rBnd (M 34 0)) (nd := M 33 0 5) (ni := M 33 0 6) (sg := M 34 0 52) (ln := M 34 0 53) (hI := fun _ => ms) (hl := Or.inr l3) (k1 := fun q => absurd q (by omega)) (k2 := fun _ q => by (try simp only [f5, f6, f7] at q); exfalso; omega) (k3 := fun _ _ M3 hQ => mpqJ K2 hQ (fo.trans (by
        rw [q6]
        by_cases hx : M 33 0 6 < q
        · rw [if_pos hx, if_pos hx]
        · rw [if_neg hx, if_neg hx]
          exact (an_tier hS hV (by omega) (by omega)).1))) (ha := K2.a2) (hit := K2.a6) (hdi := K2.a5) (hcl := K2.a7)
theorem st_afterRepair {G : bc_G} {M : bc_M} {n : Int} (hK : KK M n) (hn : n ≤ 2800) : bc_Call G yX8_afterRepair cX8_afterRepair 1 (some .int) 9 1 [vR G 1 0] M (AFI csS (fun k M2 => bc_Call G yX9_afterRepair cX9_afterRepair 3 (some .int) 13 0 [vR G 33 0] M2 (MPI n k))) := by
  refine ct_afterRepair (n := n) (hl := hK.1) (hI := hK.li) (k1 := fun h0 => ?_) (k3 := fun h1 M' hF => ?_) 
  · refine ⟨1, by simp [csS], ?_⟩
    have g0 : M 33 0 3 = 0 := hK.2.1.trans h0
    exact ct_mAfterRepair (dk := rDk (M 34 0)) (fr := rFr (M 34 0)) (pop := rPop (M 34 0)) (bnd := rBnd (M 34 0)) (nd := M 33 0 5) (ni := M 33 0 6) (sg := M 34 0 52) (ln := M 34 0 53) (hI := fun q => absurd q (by omega)) (hl := Or.inl g0) (k1 := fun _ => mp1 hK) (k3 := fun q => absurd q (by omega)) (ha := hK.a2) (hit := hK.a6) (hdi := hK.a5) (hcl := hK.a7)
  · obtain ⟨q5, q6, q7⟩ := hK.eqs h1
    obtain ⟨⟨hS, hV⟩, hH, hB⟩ := hK.cu h1
    refine ⟨_, rfl, KQ hK h1 (KE.ftr hF) (C := fun M2 => bc_Call G yX9_afterRepair cX9_afterRepair 3 (some .int) 13 0 [vR G 33 0] M2 (MPI n 0)) (fun M2 K2 ms l3 hf h34 fo => ?_)⟩
    obtain ⟨f5, f6, f7⟩ := hf
    obtain ⟨f34, f36, f37⟩ := h34
    exact ct_mAfterRepair (dk := rDk (M 34 0)) (fr := rFr (M 34 0)) (pop := rPop (M 34 0)) (bnd := rBnd (M 34 0)) (nd := M 33 0 5) (ni := M 33 0 6) (sg := M 34 0 52) (ln := M 34 0 53) (hI := fun _ => ms) (hl := Or.inr l3) (k1 := fun q => absurd q (by omega)) (k3 := fun _ M3 hQ => mpq K2 hQ (fo.trans (congrArg w32 (an_after hS hV)))) (ha := K2.a2) (hit := K2.a6) (hdi := K2.a5) (hcl := K2.a7)
theorem st_bestDisk {G : bc_G} {M : bc_M} {n i : Int} (h_i : -2147483648 ≤ i ∧ i < 2147483648) (hK : KK M n) (hn : n ≤ 2800) : bc_Call G yX8_bestDisk cX8_bestDisk 6 (some .int) 9 2 [vR G 1 0, vI i] M (AFI csA (fun k M2 => bc_Call G yX9_bestDisk cX9_bestDisk 7 (some .int) 12 0 [vR G 33 0, vI i] M2 (MPI n k))) := by
  refine ct_bestDisk (n := n) (hl := hK.1) (hI := hK.li) (k1 := fun h0 => ?_) (k2 := fun h1 hb => ?_) (k3 := fun h1 hg M' hF => ?_) h_i
  · refine ⟨1, by simp [csA], ?_⟩
    have g0 : M 33 0 3 = 0 := hK.2.1.trans h0
    exact ct_mBestDisk (dk := rDk (M 34 0)) (fr := rFr (M 34 0)) (pop := rPop (M 34 0)) (bnd := rBnd (M 34 0)) (nd := M 33 0 5) (ni := M 33 0 6) (sg := M 34 0 52) (ln := M 34 0 53) (hI := fun q => absurd q (by omega)) (hl := Or.inl g0) (k1 := fun _ => mp1 hK) (k2 := fun q => absurd q (by omega)) (k3 := fun q => absurd q (by omega)) (ha := hK.a2) (hit := hK.a6) (hdi := hK.a5) (hcl := hK.a7)
  · refine ⟨2, by simp [csA], ?_⟩
    obtain ⟨q5, q6, q7⟩ := hK.eqs h1
    have g1 : M 33 0 3 = 1 := hK.2.1.trans h1
    (try simp only [q5, q6, q7] at hb)
    exact ct_mBestDisk (dk := rDk (M 34 0)) (fr := rFr (M 34 0)) (pop := rPop (M 34 0)) (bnd := rBnd (M 34 0)) (nd := M 33 0 5) (ni := M 33 0 6) (sg := M 34 0 52) (ln := M 34 0 53) (hI := fun _ => hK.ms g1) (hl := Or.inr g1) (k1 := fun q => absurd q (by omega)) (k2 := fun _ _ => mp1 hK) (k3 := fun _ q => by exfalso; omega) (ha := hK.a2) (hit := hK.a6) (hdi := hK.a5) (hcl := hK.a7)
  · obtain ⟨q5, q6, q7⟩ := hK.eqs h1
    (try simp only [q5, q6, q7] at hg)
    obtain ⟨⟨hS, hV⟩, hH, hB⟩ := hK.cu h1
    refine ⟨_, rfl, KQ hK h1 (KE.ftr hF) (C := fun M2 => bc_Call G yX9_bestDisk cX9_bestDisk 7 (some .int) 12 0 [vR G 33 0, vI i] M2 (MPI n 0)) (fun M2 K2 ms l3 hf h34 fo => ?_)⟩
    obtain ⟨f5, f6, f7⟩ := hf
    obtain ⟨f34, f36, f37⟩ := h34
    exact ct_mBestDisk (dk := rDk (M 34 0)) (fr := rFr (M 34 0)) (pop := rPop (M 34 0)) (bnd := rBnd (M 34 0)) (nd := M 33 0 5) (ni := M 33 0 6) (sg := M 34 0 52) (ln := M 34 0 53) (hI := fun _ => ms) (hl := Or.inr l3) (k1 := fun q => absurd q (by omega)) (k2 := fun _ q => by (try simp only [f5, f6, f7] at q); exfalso; omega) (k3 := fun _ _ M3 hQ => mpq K2 hQ (fo.trans (congrArg w32 (an_disk hS hV)))) (ha := K2.a2) (hit := K2.a6) (hdi := K2.a5) (hcl := K2.a7)
theorem st_clientCount {G : bc_G} {M : bc_M} {n : Int} (hK : KK M n) (hn : n ≤ 2800) : bc_Call G yX8_clientCount cX8_clientCount 1 (some .int) 9 1 [vR G 1 0] M (AFI csS (fun k M2 => bc_Call G yX9_clientCount cX9_clientCount 1 (some .int) 12 0 [vR G 33 0] M2 (MPI n k))) := by
  refine ct_clientCount (n := n) (hl := hK.1) (hI := hK.li) (k1 := fun h0 => ?_) (k3 := fun h1 => ?_) 
  · refine ⟨1, by simp [csS], ?_⟩
    have g0 : M 33 0 3 = 0 := hK.2.1.trans h0
    exact ct_mClientCount (dk := rDk (M 34 0)) (fr := rFr (M 34 0)) (pop := rPop (M 34 0)) (bnd := rBnd (M 34 0)) (nd := M 33 0 5) (ni := M 33 0 6) (sg := M 34 0 52) (ln := M 34 0 53) (hI := fun q => absurd q (by omega)) (hl := Or.inl g0) (k1 := fun _ => mp1 hK) (k3 := fun q => absurd q (by omega)) (ha := hK.a2) (hit := hK.a6) (hdi := hK.a5) (hcl := hK.a7)
  · obtain ⟨q5, q6, q7⟩ := hK.eqs h1
    obtain ⟨⟨hS, hV⟩, hH, hB⟩ := hK.cu h1
    refine ⟨_, rfl, KQ hK h1 KE.rf (C := fun M2 => bc_Call G yX9_clientCount cX9_clientCount 1 (some .int) 12 0 [vR G 33 0] M2 (MPI n 0)) (fun M2 K2 ms l3 hf h34 fo => ?_)⟩
    obtain ⟨f5, f6, f7⟩ := hf
    obtain ⟨f34, f36, f37⟩ := h34
    exact ct_mClientCount (dk := rDk (M 34 0)) (fr := rFr (M 34 0)) (pop := rPop (M 34 0)) (bnd := rBnd (M 34 0)) (nd := M 33 0 5) (ni := M 33 0 6) (sg := M 34 0 52) (ln := M 34 0 53) (hI := fun _ => ms) (hl := Or.inr l3) (k1 := fun q => absurd q (by omega)) (k3 := fun _ M3 hQ => mpq K2 hQ (fo.trans (congrArg w32 (by rw [f7]; exact q7)))) (ha := K2.a2) (hit := K2.a6) (hdi := K2.a5) (hcl := K2.a7)
theorem st_clientValue {G : bc_G} {M : bc_M} {n c w : Int} (h_c : -2147483648 ≤ c ∧ c < 2147483648) (h_w : -2147483648 ≤ w ∧ w < 2147483648) (hK : KK M n) (hn : n ≤ 2800) : bc_Call G yX8_clientValue cX8_clientValue 4 (some .int) 9 3 [vR G 1 0, vI c, vI w] M (AFI csA (fun k M2 => bc_Call G yX9_clientValue cX9_clientValue 3 (some .int) 12 0 [vR G 33 0, vI c, vI w] M2 (MPI n k))) := by
  refine ct_clientValue (n := n) (hl := hK.1) (hI := hK.li) (k1 := fun h0 => ?_) (k2 := fun h1 hb => ?_) (k3 := fun h1 hg => ?_) h_c h_w
  · refine ⟨1, by simp [csA], ?_⟩
    have g0 : M 33 0 3 = 0 := hK.2.1.trans h0
    exact ct_mClientValue (dk := rDk (M 34 0)) (fr := rFr (M 34 0)) (pop := rPop (M 34 0)) (bnd := rBnd (M 34 0)) (nd := M 33 0 5) (ni := M 33 0 6) (sg := M 34 0 52) (ln := M 34 0 53) (hI := fun q => absurd q (by omega)) (hl := Or.inl g0) (k1 := fun _ => mp1 hK) (k2 := fun q => absurd q (by omega)) (k3 := fun q => absurd q (by omega)) (ha := hK.a2) (hit := hK.a6) (hdi := hK.a5) (hcl := hK.a7)
  · refine ⟨2, by simp [csA], ?_⟩
    obtain ⟨q5, q6, q7⟩ := hK.eqs h1
    have g1 : M 33 0 3 = 1 := hK.2.1.trans h1
    (try simp only [q5, q6, q7] at hb)
    exact ct_mClientValue (dk := rDk (M 34 0)) (fr := rFr (M 34 0)) (pop := rPop (M 34 0)) (bnd := rBnd (M 34 0)) (nd := M 33 0 5) (ni := M 33 0 6) (sg := M 34 0 52) (ln := M 34 0 53) (hI := fun _ => hK.ms g1) (hl := Or.inr g1) (k1 := fun q => absurd q (by omega)) (k2 := fun _ _ => mp1 hK) (k3 := fun _ q => by exfalso; omega) (ha := hK.a2) (hit := hK.a6) (hdi := hK.a5) (hcl := hK.a7)
  · obtain ⟨q5, q6, q7⟩ := hK.eqs h1
    (try simp only [q5, q6, q7] at hg)
    obtain ⟨⟨hS, hV⟩, hH, hB⟩ := hK.cu h1
    refine ⟨_, rfl, KQ hK h1 KE.rf (C := fun M2 => bc_Call G yX9_clientValue cX9_clientValue 3 (some .int) 12 0 [vR G 33 0, vI c, vI w] M2 (MPI n 0)) (fun M2 K2 ms l3 hf h34 fo => ?_)⟩
    obtain ⟨f5, f6, f7⟩ := hf
    obtain ⟨f34, f36, f37⟩ := h34
    exact ct_mClientValue (dk := rDk (M 34 0)) (fr := rFr (M 34 0)) (pop := rPop (M 34 0)) (bnd := rBnd (M 34 0)) (nd := M 33 0 5) (ni := M 33 0 6) (sg := M 34 0 52) (ln := M 34 0 53) (hI := fun _ => ms) (hl := Or.inr l3) (k1 := fun q => absurd q (by omega)) (k2 := fun _ q => by (try simp only [f5, f6, f7] at q); exfalso; omega) (k3 := fun _ _ M3 hQ => mpq K2 hQ (fo.trans (congrArg w32 (by
        have hCE := hS.2.2.2.2 c (by omega) (by omega)
        have em : mc M2 c w = rCl (M 34 0) c w := by unfold mc rCl; rw [f34]
        rw [em, f36]
        exact cv_eq hCE (by omega))))) (ha := K2.a2) (hit := K2.a6) (hdi := K2.a5) (hcl := K2.a7)
theorem st_cache {G : bc_G} {M : bc_M} {n c : Int} (h_c : -2147483648 ≤ c ∧ c < 2147483648) (hK : KK M n) (hn : n ≤ 2800) : bc_Call G yX8_cache cX8_cache 2 (some .int) 9 2 [vR G 1 0, vI c] M (AFI csA (fun k M2 => bc_Call G yX9_cache cX9_cache 2 (some .int) 3 0 [vR G 33 0, vI c] M2 (MPI n k))) := by
  refine ct_cache (n := n) (hl := hK.1) (hI := hK.li) (k1 := fun h0 => ?_) (k2 := fun h1 hb => ?_) (k3 := fun h1 hg => ?_) h_c
  · refine ⟨1, by simp [csA], ?_⟩
    have g0 : M 33 0 3 = 0 := hK.2.1.trans h0
    exact ct_mCache  (hl := Or.inl g0) (k1 := fun _ => mp1 hK) (k2 := fun q => absurd q (by omega)) (k3 := fun q => absurd q (by omega)) (ha := hK.a2) (hit := hK.a6) (hdi := hK.a5) (hcl := hK.a7)
  · refine ⟨2, by simp [csA], ?_⟩
    obtain ⟨q5, q6, q7⟩ := hK.eqs h1
    have g1 : M 33 0 3 = 1 := hK.2.1.trans h1
    (try simp only [q5, q6, q7] at hb)
    exact ct_mCache  (hl := Or.inr g1) (k1 := fun q => absurd q (by omega)) (k2 := fun _ _ => mp1 hK) (k3 := fun _ q => by exfalso; omega) (ha := hK.a2) (hit := hK.a6) (hdi := hK.a5) (hcl := hK.a7)
  · obtain ⟨q5, q6, q7⟩ := hK.eqs h1
    (try simp only [q5, q6, q7] at hg)
    obtain ⟨⟨hS, hV⟩, hH, hB⟩ := hK.cu h1
    refine ⟨_, rfl, KQ hK h1 KE.rf (C := fun M2 => bc_Call G yX9_cache cX9_cache 2 (some .int) 3 0 [vR G 33 0, vI c] M2 (MPI n 0)) (fun M2 K2 ms l3 hf h34 fo => ?_)⟩
    obtain ⟨f5, f6, f7⟩ := hf
    obtain ⟨f34, f36, f37⟩ := h34
    exact ct_mCache  (hl := Or.inr l3) (k1 := fun q => absurd q (by omega)) (k2 := fun _ q => by (try simp only [f5, f6, f7] at q); exfalso; omega) (k3 := fun _ _ => mpu K2 (fo.trans (congrArg w32 (by rw [f34]; exact (hS.2.2.2.2 c (by omega) (by omega)).2.1.2.2.2.2.2.1)))) (ha := K2.a2) (hit := K2.a6) (hdi := K2.a5) (hcl := K2.a7)
theorem st_requests {G : bc_G} {M : bc_M} {n c i : Int} (h_c : -2147483648 ≤ c ∧ c < 2147483648) (h_i : -2147483648 ≤ i ∧ i < 2147483648) (hK : KK M n) (hn : n ≤ 2800) : bc_Call G yX8_requests cX8_requests 3 (some .int) 9 3 [vR G 1 0, vI c, vI i] M (AFI csA (fun k M2 => bc_Call G yX9_requests cX9_requests 3 (some .int) 3 0 [vR G 33 0, vI c, vI i] M2 (MPI n k))) := by
  refine ct_requests (n := n) (hl := hK.1) (hI := hK.li) (k1 := fun h0 => ?_) (k2 := fun h1 hb => ?_) (k3 := fun h1 hg => ?_) h_c h_i
  · refine ⟨1, by simp [csA], ?_⟩
    have g0 : M 33 0 3 = 0 := hK.2.1.trans h0
    exact ct_mRequests  (hl := Or.inl g0) (k1 := fun _ => mp1 hK) (k2 := fun q => absurd q (by omega)) (k3 := fun q => absurd q (by omega)) (ha := hK.a2) (hit := hK.a6) (hdi := hK.a5) (hcl := hK.a7)
  · refine ⟨2, by simp [csA], ?_⟩
    obtain ⟨q5, q6, q7⟩ := hK.eqs h1
    have g1 : M 33 0 3 = 1 := hK.2.1.trans h1
    (try simp only [q5, q6, q7] at hb)
    exact ct_mRequests  (hl := Or.inr g1) (k1 := fun q => absurd q (by omega)) (k2 := fun _ _ => mp1 hK) (k3 := fun _ q => by exfalso; omega) (ha := hK.a2) (hit := hK.a6) (hdi := hK.a5) (hcl := hK.a7)
  · obtain ⟨q5, q6, q7⟩ := hK.eqs h1
    (try simp only [q5, q6, q7] at hg)
    obtain ⟨⟨hS, hV⟩, hH, hB⟩ := hK.cu h1
    refine ⟨_, rfl, KQ hK h1 KE.rf (C := fun M2 => bc_Call G yX9_requests cX9_requests 3 (some .int) 3 0 [vR G 33 0, vI c, vI i] M2 (MPI n 0)) (fun M2 K2 ms l3 hf h34 fo => ?_)⟩
    obtain ⟨f5, f6, f7⟩ := hf
    obtain ⟨f34, f36, f37⟩ := h34
    exact ct_mRequests  (hl := Or.inr l3) (k1 := fun q => absurd q (by omega)) (k2 := fun _ q => by (try simp only [f5, f6, f7] at q); exfalso; omega) (k3 := fun _ _ => mpu K2 (fo.trans (congrArg w32 (by rw [f34]; exact ((hS.2.2.2.2 c (by omega) (by omega)).2.2 i (by omega) (by have := hK.a6; omega)).1)))) (ha := K2.a2) (hit := K2.a6) (hdi := K2.a5) (hcl := K2.a7)
theorem st_victim {G : bc_G} {M : bc_M} {n c i : Int} (h_c : -2147483648 ≤ c ∧ c < 2147483648) (h_i : -2147483648 ≤ i ∧ i < 2147483648) (hK : KK M n) (hn : n ≤ 2800) : bc_Call G yX8_victim cX8_victim 3 (some .int) 9 3 [vR G 1 0, vI c, vI i] M (AFI csA (fun k M2 => bc_Call G yX9_victim cX9_victim 4 (some .int) 13 0 [vR G 33 0, vI c, vI i] M2 (MPI n k))) := by
  refine ct_victim (n := n) (hl := hK.1) (hI := hK.li) (k1 := fun h0 => ?_) (k2 := fun h1 hb => ?_) (k3 := fun h1 hg M' hF => ?_) h_c h_i (hn9 := ⟨hK.n0, by omega⟩)
  · refine ⟨1, by simp [csA], ?_⟩
    have g0 : M 33 0 3 = 0 := hK.2.1.trans h0
    exact ct_mVictim (dk := rDk (M 34 0)) (fr := rFr (M 34 0)) (pop := rPop (M 34 0)) (bnd := rBnd (M 34 0)) (nd := M 33 0 5) (ni := M 33 0 6) (sg := M 34 0 52) (ln := M 34 0 53) (hI := fun q => absurd q (by omega)) (hl := Or.inl g0) (k1 := fun _ => mp1 hK) (k2 := fun q => absurd q (by omega)) (k3 := fun q => absurd q (by omega)) (ha := hK.a2) (hit := hK.a6) (hdi := hK.a5) (hcl := hK.a7) (n := n) (hn := ⟨hK.n0, by omega⟩) (hcn := hK.cn)
  · refine ⟨2, by simp [csA], ?_⟩
    obtain ⟨q5, q6, q7⟩ := hK.eqs h1
    have g1 : M 33 0 3 = 1 := hK.2.1.trans h1
    (try simp only [q5, q6, q7] at hb)
    exact ct_mVictim (dk := rDk (M 34 0)) (fr := rFr (M 34 0)) (pop := rPop (M 34 0)) (bnd := rBnd (M 34 0)) (nd := M 33 0 5) (ni := M 33 0 6) (sg := M 34 0 52) (ln := M 34 0 53) (hI := fun _ => hK.ms g1) (hl := Or.inr g1) (k1 := fun q => absurd q (by omega)) (k2 := fun _ _ => mp1 hK) (k3 := fun _ q => by exfalso; omega) (ha := hK.a2) (hit := hK.a6) (hdi := hK.a5) (hcl := hK.a7) (n := n) (hn := ⟨hK.n0, by omega⟩) (hcn := hK.cn)
  · obtain ⟨q5, q6, q7⟩ := hK.eqs h1
    (try simp only [q5, q6, q7] at hg)
    obtain ⟨⟨hS, hV⟩, hH, hB⟩ := hK.cu h1
    refine ⟨_, rfl, KQ hK h1 (KE.fcl hF) (C := fun M2 => bc_Call G yX9_victim cX9_victim 4 (some .int) 13 0 [vR G 33 0, vI c, vI i] M2 (MPI n 0)) (fun M2 K2 ms l3 hf h34 fo => ?_)⟩
    obtain ⟨f5, f6, f7⟩ := hf
    obtain ⟨f34, f36, f37⟩ := h34
    have cn2 := K2.cn
    rw [f6] at cn2
    exact ct_mVictim (dk := rDk (M 34 0)) (fr := rFr (M 34 0)) (pop := rPop (M 34 0)) (bnd := rBnd (M 34 0)) (nd := M 33 0 5) (ni := M 33 0 6) (sg := M 34 0 52) (ln := M 34 0 53) (hI := fun _ => ms) (hl := Or.inr l3) (k1 := fun q => absurd q (by omega)) (k2 := fun _ q => by (try simp only [f5, f6, f7] at q); exfalso; omega) (k3 := fun _ _ M3 hQ => mpq K2 hQ (fo.trans (congrArg w32 (by
        have em : mc M2 c = rCl (M 34 0) c := by funext w; unfold mc rCl; rw [f34]
        rw [em, f36, f37]
        exact an_vic hS hV (by omega) (by omega))))) (ha := K2.a2) (hit := K2.a6) (hdi := K2.a5) (hcl := K2.a7) (n := n) (hn := ⟨K2.n0, by omega⟩) (hcn := cn2)
theorem st_soonest {G : bc_G} {M : bc_M} {n c s : Int} (h_c : -2147483648 ≤ c ∧ c < 2147483648) (h_s : -2147483648 ≤ s ∧ s < 2147483648) (hK : KK M n) (hn : n ≤ 2800) : bc_Call G yX8_soonest cX8_soonest 5 (some .int) 9 4 [vR G 1 0, vI c, vI s] M (AFI csA (fun k M2 => bc_Call G yX9_soonest cX9_soonest 3 (some .int) 13 0 [vR G 33 0, vI c, vI s] M2 (MPI n k))) := by
  refine ct_soonest (n := n) (hl := hK.1) (hI := hK.li) (k1 := fun h0 => ?_) (k2 := fun h1 hb => ?_) (k3 := fun h1 hg => ?_) h_c h_s (hn9 := by omega)
  · refine ⟨1, by simp [csA], ?_⟩
    have g0 : M 33 0 3 = 0 := hK.2.1.trans h0
    exact ct_mSoonest (dk := rDk (M 34 0)) (fr := rFr (M 34 0)) (pop := rPop (M 34 0)) (bnd := rBnd (M 34 0)) (nd := M 33 0 5) (ni := M 33 0 6) (sg := M 34 0 52) (ln := M 34 0 53) (hI := fun q => absurd q (by omega)) (hl := Or.inl g0) (k1 := fun _ => mp1 hK) (k2 := fun q => absurd q (by omega)) (k3 := fun q => absurd q (by omega)) (ha := hK.a2) (hit := hK.a6) (hdi := hK.a5) (hcl := hK.a7) (hcn := hK.c0 hn)
  · refine ⟨2, by simp [csA], ?_⟩
    obtain ⟨q5, q6, q7⟩ := hK.eqs h1
    have g1 : M 33 0 3 = 1 := hK.2.1.trans h1
    (try simp only [q5, q6, q7] at hb)
    have hcr := bs_cnt_rng s 16
    have hpr := p2_rng hK.a6
    have hcp : 1 ≤ s → s < 65536 → 1 ≤ bs_cnt s 16 := fun a b => bs_cnt_pos (by omega) b
    exact ct_mSoonest (dk := rDk (M 34 0)) (fr := rFr (M 34 0)) (pop := rPop (M 34 0)) (bnd := rBnd (M 34 0)) (nd := M 33 0 5) (ni := M 33 0 6) (sg := M 34 0 52) (ln := M 34 0 53) (hI := fun _ => hK.ms g1) (hl := Or.inr g1) (k1 := fun q => absurd q (by omega)) (k2 := fun _ _ => mp1 hK) (k3 := fun _ q => by exfalso; omega) (ha := hK.a2) (hit := hK.a6) (hdi := hK.a5) (hcl := hK.a7) (hcn := hK.c0 hn)
  · obtain ⟨q5, q6, q7⟩ := hK.eqs h1
    (try simp only [q5, q6, q7] at hg)
    obtain ⟨⟨hS, hV⟩, hH, hB⟩ := hK.cu h1
    have hcr := bs_cnt_rng s 16
    have hpr := p2_rng hK.a6
    have hcp : 1 ≤ s → s < 65536 → 1 ≤ bs_cnt s 16 := fun a b => bs_cnt_pos (by omega) b
    refine ⟨_, rfl, KQ hK h1 KE.rf (C := fun M2 => bc_Call G yX9_soonest cX9_soonest 3 (some .int) 13 0 [vR G 33 0, vI c, vI s] M2 (MPI n 0)) (fun M2 K2 ms l3 hf h34 fo => ?_)⟩
    obtain ⟨f5, f6, f7⟩ := hf
    obtain ⟨f34, f36, f37⟩ := h34
    exact ct_mSoonest (dk := rDk (M 34 0)) (fr := rFr (M 34 0)) (pop := rPop (M 34 0)) (bnd := rBnd (M 34 0)) (nd := M 33 0 5) (ni := M 33 0 6) (sg := M 34 0 52) (ln := M 34 0 53) (hI := fun _ => ms) (hl := Or.inr l3) (k1 := fun q => absurd q (by omega)) (k2 := fun _ q => by (try simp only [f5, f6, f7] at q); exfalso; omega) (k3 := fun _ _ M3 hQ => mpq K2 hQ (fo.trans (congrArg w32 (by
        have em : mc M2 c = rCl (M 34 0) c := by funext w; unfold mc rCl; rw [f34]
        rw [em]
        exact an_soon hS hV hB (by omega) (by omega))))) (ha := K2.a2) (hit := K2.a6) (hdi := K2.a5) (hcl := K2.a7) (hcn := K2.c0 hn)
theorem st_hint {G : bc_G} {M : bc_M} {n c : Int} (h_c : -2147483648 ≤ c ∧ c < 2147483648) (hK : KK M n) (hn : n ≤ 2800) : bc_Call G yX8_hint cX8_hint 3 (some .int) 9 2 [vR G 1 0, vI c] M (AFI csA (fun k M2 => bc_Call G yX9_hint cX9_hint 2 (some .int) 13 0 [vR G 33 0, vI c] M2 (MPI n k))) := by
  refine ct_hint (n := n) (hl := hK.1) (hI := hK.li) (k1 := fun h0 => ?_) (k2 := fun h1 hb => ?_) (k3 := fun h1 hg => ?_) h_c (hn9 := by omega)
  · refine ⟨1, by simp [csA], ?_⟩
    have g0 : M 33 0 3 = 0 := hK.2.1.trans h0
    exact ct_mHint (dk := rDk (M 34 0)) (fr := rFr (M 34 0)) (pop := rPop (M 34 0)) (bnd := rBnd (M 34 0)) (nd := M 33 0 5) (ni := M 33 0 6) (sg := M 34 0 52) (ln := M 34 0 53) (hI := fun q => absurd q (by omega)) (hl := Or.inl g0) (k1 := fun _ => mp1 hK) (k2 := fun q => absurd q (by omega)) (k3 := fun q => absurd q (by omega)) (ha := hK.a2) (hit := hK.a6) (hdi := hK.a5) (hcl := hK.a7) (hcn := hK.c0 hn)
  · refine ⟨2, by simp [csA], ?_⟩
    obtain ⟨q5, q6, q7⟩ := hK.eqs h1
    have g1 : M 33 0 3 = 1 := hK.2.1.trans h1
    (try simp only [q5, q6, q7] at hb)
    exact ct_mHint (dk := rDk (M 34 0)) (fr := rFr (M 34 0)) (pop := rPop (M 34 0)) (bnd := rBnd (M 34 0)) (nd := M 33 0 5) (ni := M 33 0 6) (sg := M 34 0 52) (ln := M 34 0 53) (hI := fun _ => hK.ms g1) (hl := Or.inr g1) (k1 := fun q => absurd q (by omega)) (k2 := fun _ _ => mp1 hK) (k3 := fun _ q => by exfalso; omega) (ha := hK.a2) (hit := hK.a6) (hdi := hK.a5) (hcl := hK.a7) (hcn := hK.c0 hn)
  · obtain ⟨q5, q6, q7⟩ := hK.eqs h1
    (try simp only [q5, q6, q7] at hg)
    obtain ⟨⟨hS, hV⟩, hH, hB⟩ := hK.cu h1
    refine ⟨_, rfl, KQ hK h1 KE.rf (C := fun M2 => bc_Call G yX9_hint cX9_hint 2 (some .int) 13 0 [vR G 33 0, vI c] M2 (MPI n 0)) (fun M2 K2 ms l3 hf h34 fo => ?_)⟩
    obtain ⟨f5, f6, f7⟩ := hf
    obtain ⟨f34, f36, f37⟩ := h34
    exact ct_mHint (dk := rDk (M 34 0)) (fr := rFr (M 34 0)) (pop := rPop (M 34 0)) (bnd := rBnd (M 34 0)) (nd := M 33 0 5) (ni := M 33 0 6) (sg := M 34 0 52) (ln := M 34 0 53) (hI := fun _ => ms) (hl := Or.inr l3) (k1 := fun q => absurd q (by omega)) (k2 := fun _ q => by (try simp only [f5, f6, f7] at q); exfalso; omega) (k3 := fun _ _ M3 hQ => mpq K2 hQ (fo.trans (congrArg w32 (by
        have em : mc M2 c = rCl (M 34 0) c := by funext w; unfold mc rCl; rw [f34]
        rw [em]
        exact an_hint hS hV hB (by omega))))) (ha := K2.a2) (hit := K2.a6) (hdi := K2.a5) (hcl := K2.a7) (hcn := K2.c0 hn)
theorem st_planTime {G : bc_G} {M : bc_M} {n c s : Int} (h_c : -2147483648 ≤ c ∧ c < 2147483648) (h_s : -2147483648 ≤ s ∧ s < 2147483648) (hK : KK M n) (hn : n ≤ 2800) : bc_Call G yX8_planTime cX8_planTime 3 (some .int) 9 4 [vR G 1 0, vI c, vI s] M (AFI csA (fun k M2 => bc_Call G yX9_planTime cX9_planTime 3 (some .int) 13 0 [vR G 33 0, vI c, vI s] M2 (MPI n k))) := by
  refine ct_planTime (n := n) (hl := hK.1) (hI := hK.li) (k1 := fun h0 => ?_) (k2 := fun h1 hb => ?_) (k3 := fun h1 hg M' hF => ?_) h_c h_s (hn9 := ⟨hK.n0, by omega⟩)
  · refine ⟨1, by simp [csA], ?_⟩
    have g0 : M 33 0 3 = 0 := hK.2.1.trans h0
    exact ct_mPlanTime (dk := rDk (M 34 0)) (fr := rFr (M 34 0)) (pop := rPop (M 34 0)) (bnd := rBnd (M 34 0)) (nd := M 33 0 5) (ni := M 33 0 6) (sg := M 34 0 52) (ln := M 34 0 53) (hI := fun q => absurd q (by omega)) (hl := Or.inl g0) (k1 := fun _ => mp1 hK) (k2 := fun q => absurd q (by omega)) (k3 := fun q => absurd q (by omega)) (ha := hK.a2) (hit := hK.a6) (hdi := hK.a5) (hcl := hK.a7) (n := n) (hn := ⟨hK.n0, by omega⟩) (hcn := hK.cn)
  · refine ⟨2, by simp [csA], ?_⟩
    obtain ⟨q5, q6, q7⟩ := hK.eqs h1
    have g1 : M 33 0 3 = 1 := hK.2.1.trans h1
    (try simp only [q5, q6, q7] at hb)
    have hcr := bs_cnt_rng s 16
    have hpr := p2_rng hK.a6
    have hcp : 1 ≤ s → s < 65536 → 1 ≤ bs_cnt s 16 := fun a b => bs_cnt_pos (by omega) b
    exact ct_mPlanTime (dk := rDk (M 34 0)) (fr := rFr (M 34 0)) (pop := rPop (M 34 0)) (bnd := rBnd (M 34 0)) (nd := M 33 0 5) (ni := M 33 0 6) (sg := M 34 0 52) (ln := M 34 0 53) (hI := fun _ => hK.ms g1) (hl := Or.inr g1) (k1 := fun q => absurd q (by omega)) (k2 := fun _ _ => mp1 hK) (k3 := fun _ q => by exfalso; omega) (ha := hK.a2) (hit := hK.a6) (hdi := hK.a5) (hcl := hK.a7) (n := n) (hn := ⟨hK.n0, by omega⟩) (hcn := hK.cn)
  · obtain ⟨q5, q6, q7⟩ := hK.eqs h1
    (try simp only [q5, q6, q7] at hg)
    obtain ⟨⟨hS, hV⟩, hH, hB⟩ := hK.cu h1
    have hcr := bs_cnt_rng s 16
    have hpr := p2_rng hK.a6
    have hcp : 1 ≤ s → s < 65536 → 1 ≤ bs_cnt s 16 := fun a b => bs_cnt_pos (by omega) b
    refine ⟨_, rfl, KQ hK h1 (KE.fpl hF) (C := fun M2 => bc_Call G yX9_planTime cX9_planTime 3 (some .int) 13 0 [vR G 33 0, vI c, vI s] M2 (MPI n 0)) (fun M2 K2 ms l3 hf h34 fo => ?_)⟩
    obtain ⟨f5, f6, f7⟩ := hf
    obtain ⟨f34, f36, f37⟩ := h34
    have cn2 := K2.cn
    rw [f6] at cn2
    exact ct_mPlanTime (dk := rDk (M 34 0)) (fr := rFr (M 34 0)) (pop := rPop (M 34 0)) (bnd := rBnd (M 34 0)) (nd := M 33 0 5) (ni := M 33 0 6) (sg := M 34 0 52) (ln := M 34 0 53) (hI := fun _ => ms) (hl := Or.inr l3) (k1 := fun q => absurd q (by omega)) (k2 := fun _ q => by (try simp only [f5, f6, f7] at q); exfalso; omega) (k3 := fun _ _ M3 hQ => mpq K2 hQ (fo.trans (congrArg w32 (by
        have em : mc M2 c = rCl (M 34 0) c := by funext w; unfold mc rCl; rw [f34]
        rw [em, f36, f37]
        exact (an_plan hS hV hB (by omega) (by omega) (by omega)).2.1)))) (ha := K2.a2) (hit := K2.a6) (hdi := K2.a5) (hcl := K2.a7) (n := n) (hn := ⟨K2.n0, by omega⟩) (hcn := cn2)
theorem st_planItem {G : bc_G} {M : bc_M} {n c s x : Int} (h_c : -2147483648 ≤ c ∧ c < 2147483648) (h_s : -2147483648 ≤ s ∧ s < 2147483648) (h_x : -2147483648 ≤ x ∧ x < 2147483648) (hK : KK M n) (hn : n ≤ 2800) : bc_Call G yX8_planItem cX8_planItem 4 (some .int) 9 5 [vR G 1 0, vI c, vI s, vI x] M (AFI csA (fun k M2 => bc_Call G yX9_planItem cX9_planItem 4 (some .int) 13 0 [vR G 33 0, vI c, vI s, vI x] M2 (MPI n k))) := by
  refine ct_planItem (n := n) (hl := hK.1) (hI := hK.li) (k1 := fun h0 => ?_) (k2 := fun h1 hb => ?_) (k3 := fun h1 hg M' hF => ?_) h_c h_s h_x (hn9 := ⟨hK.n0, by omega⟩)
  · refine ⟨1, by simp [csA], ?_⟩
    have g0 : M 33 0 3 = 0 := hK.2.1.trans h0
    exact ct_mPlanItem (dk := rDk (M 34 0)) (fr := rFr (M 34 0)) (pop := rPop (M 34 0)) (bnd := rBnd (M 34 0)) (nd := M 33 0 5) (ni := M 33 0 6) (sg := M 34 0 52) (ln := M 34 0 53) (hI := fun q => absurd q (by omega)) (hl := Or.inl g0) (k1 := fun _ => mp1 hK) (k2 := fun q => absurd q (by omega)) (k3 := fun q => absurd q (by omega)) (ha := hK.a2) (hit := hK.a6) (hdi := hK.a5) (hcl := hK.a7) (n := n) (hn := ⟨hK.n0, by omega⟩) (hcn := hK.cn)
  · refine ⟨2, by simp [csA], ?_⟩
    obtain ⟨q5, q6, q7⟩ := hK.eqs h1
    have g1 : M 33 0 3 = 1 := hK.2.1.trans h1
    (try simp only [q5, q6, q7] at hb)
    have hcr := bs_cnt_rng s 16
    have hpr := p2_rng hK.a6
    have hcp : 1 ≤ s → s < 65536 → 1 ≤ bs_cnt s 16 := fun a b => bs_cnt_pos (by omega) b
    exact ct_mPlanItem (dk := rDk (M 34 0)) (fr := rFr (M 34 0)) (pop := rPop (M 34 0)) (bnd := rBnd (M 34 0)) (nd := M 33 0 5) (ni := M 33 0 6) (sg := M 34 0 52) (ln := M 34 0 53) (hI := fun _ => hK.ms g1) (hl := Or.inr g1) (k1 := fun q => absurd q (by omega)) (k2 := fun _ _ => mp1 hK) (k3 := fun _ q => by exfalso; omega) (ha := hK.a2) (hit := hK.a6) (hdi := hK.a5) (hcl := hK.a7) (n := n) (hn := ⟨hK.n0, by omega⟩) (hcn := hK.cn)
  · obtain ⟨q5, q6, q7⟩ := hK.eqs h1
    (try simp only [q5, q6, q7] at hg)
    obtain ⟨⟨hS, hV⟩, hH, hB⟩ := hK.cu h1
    have hcr := bs_cnt_rng s 16
    have hpr := p2_rng hK.a6
    have hcp : 1 ≤ s → s < 65536 → 1 ≤ bs_cnt s 16 := fun a b => bs_cnt_pos (by omega) b
    refine ⟨_, rfl, KQ hK h1 (KE.fpl hF) (C := fun M2 => bc_Call G yX9_planItem cX9_planItem 4 (some .int) 13 0 [vR G 33 0, vI c, vI s, vI x] M2 (MPI n 0)) (fun M2 K2 ms l3 hf h34 fo => ?_)⟩
    obtain ⟨f5, f6, f7⟩ := hf
    obtain ⟨f34, f36, f37⟩ := h34
    have cn2 := K2.cn
    rw [f6] at cn2
    exact ct_mPlanItem (dk := rDk (M 34 0)) (fr := rFr (M 34 0)) (pop := rPop (M 34 0)) (bnd := rBnd (M 34 0)) (nd := M 33 0 5) (ni := M 33 0 6) (sg := M 34 0 52) (ln := M 34 0 53) (hI := fun _ => ms) (hl := Or.inr l3) (k1 := fun q => absurd q (by omega)) (k2 := fun _ q => by (try simp only [f5, f6, f7] at q); exfalso; omega) (k3 := fun _ _ M3 hQ => mpq K2 hQ (fo.trans (congrArg w32 (by
        have em : mc M2 c = rCl (M 34 0) c := by funext w; unfold mc rCl; rw [f34]
        rw [em, f36, f37]
        have h9 := (an_plan hS hV hB (c := c) (s := s) (by omega) (by omega) (by omega) (td := bc_up M2 33 0 4 0 49 0) (pt := bc_up M2 33 0 4 0 33 0 40) (pn := bc_up M2 33 0 4 0 50 0)).2.2
        by_cases hx : x < bs_cnt s 16
        · rw [if_neg (by omega), if_pos hx]
          exact h9 x (by omega) hx
        · rw [if_pos (by omega), if_neg hx])))) (ha := K2.a2) (hit := K2.a6) (hdi := K2.a5) (hcl := K2.a7) (n := n) (hn := ⟨K2.n0, by omega⟩) (hcn := cn2)
