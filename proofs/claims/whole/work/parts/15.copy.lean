/-! System.arraycopy of a whole row of ints -/
def bc_row (M : bc_M) (k : Nat) (j : Int) (g : Int → Int) : bc_M := fun k' j' => if k' = k ∧ j' = j then g else M k' j'
theorem row_kne {M : bc_M} {k k' : Nat} {j j' : Int} {g : Int → Int} (h : k' ≠ k) : bc_row M k j g k' j' = M k' j' := by simp only [bc_row, h, false_and, if_false]
theorem row_jne {M : bc_M} {k k' : Nat} {j j' : Int} {g : Int → Int} (h : j' ≠ j) : bc_row M k j g k' j' = M k' j' := by simp only [bc_row, h, and_false, if_false]
theorem row_at {M : bc_M} {k : Nat} {j : Int} {g : Int → Int} : bc_row M k j g k j = g := by simp only [bc_row, and_self, if_true]
section COPY
variable {G : bc_G} {own : String} {cc : ByteArray} {mL : Nat} {rt : Option FieldType} {d N u pc pc' : Nat} {L : List (Option Value)} {st : List Value} {M : bc_M} {post : bc_R → bc_M → Prop}
theorem bc_H_row {k : Nat} {j : Int} {g : Int → Int} {H H' : Heap} (hok : bc_ok G) (hH : bc_H G M H) (hj : 0 ≤ j ∧ j < bc_n k) (z : H'.size = H.size) (oq : ∀ q : Nat, q ≠ G.2.2.2.1 k j → H'[q]? = H[q]?) (h : va_at G.2.1 bc_cl (G.2.2.2.1 k j, bc_e G k j g) H') : bc_H G (bc_row M k j g) H' := by
  refine ⟨⟨by rw [z]; exact hH.1.1, fun q hq => ?_⟩, fun k' j' h0 h1 => ?_⟩
  · rw [oq q (fun e => by have := hok.2.2.1 k j hj.1 hj.2; omega)]
    exact hH.1.2 q hq
  · by_cases he : k' = k ∧ j' = j
    · obtain ⟨rfl, rfl⟩ := he
      rw [row_at]
      exact h
    · have h2 := hH.2 k' j' h0 h1
      have h3 : bc_row M k j g k' j' = M k' j' := by simp only [bc_row, if_neg he]
      rw [h3]
      exact h2.kept (oq _ (fun e => he (hok.2.2.2 k' k j' j h0 h1 hj.1 hj.2 e)))
theorem arrV_ext {c : ClassId} {n : Nat} {f g : Nat → Value} (h : ∀ q, q < n → f q = g q) : arrV c n f = arrV c n g := by
  have : (arrV c n f).slots = (arrV c n g).slots := by
    apply Array.ext_getElem?
    intro i
    by_cases hi : i < n
    · rw [arrV_read _ _ hi, arrV_read _ _ hi, h i hi]
    · rw [Array.getElem?_eq_none (by rw [arrV_size]; omega), Array.getElem?_eq_none (by rw [arrV_size]; omega)]
  unfold arrV at this ⊢
  simp only at this
  rw [this]
theorem bc_copy {idx k0 k1 n : Nat} {j0 j1 : Int} {nn : Int} (hd : bc_d cc pc (.invokestatic idx) 3 pc') (w1 : Cond.methodLink own idx arraycopyName ∈ bc_wd) (w2 : Cond.native arraycopyName ∈ bc_wd) (w3 : Cond.static arraycopyName ∈ bc_wd) (w4 : Cond.initialized "java/lang/System" ∈ bc_wd)
    (he0 : ∀ g : Int → Int, bc_e G k0 j0 g = .inl (bc_ty G 0, n, .inl (fun q => Int32.ofInt (g (q : Int))))) (he1 : ∀ g : Int → Int, bc_e G k1 j1 g = .inl (bc_ty G 0, n, .inl (fun q => Int32.ofInt (g (q : Int))))) (hj0 : 0 ≤ j0 ∧ j0 < bc_n k0) (hj1 : 0 ≤ j1 ∧ j1 < bc_n k1) (hnn : nn = (n : Int)) (hn : (n : Int) < 2147483648) (hst : Nat.ble ((st.map fun v => v.category).sum) 8 = true) (hdd : 1 ≤ d)
    (K : bc_W G own cc mL rt d N u pc' L st (bc_row M k1 j1 (M k0 j0)) post) : bc_W G own cc mL rt d N u pc L (vI nn :: vI 0 :: vR G k1 j1 :: vI 0 :: vR G k0 j0 :: st) M post := by
  intro p e s m args below meth c H locs ls C hl hH hS
  obtain ⟨hd, rfl⟩ := hd
  subst hnn
  have hts := C.2.2.2.2.2.1
  have hSS := C.2.2.2.2.2.2.2.2.1
  have hok := C.2.2.2.2.2.2.2.2.2.1
  have hc0 := hH.2 k0 j0 hj0.1 hj0.2
  have hc1 := hH.2 k1 j1 hj1.1 hj1.2
  rw [he0] at hc0
  rw [he1] at hc1
  have hc0 : H[G.2.2.2.1 k0 j0]? = some (vp_cell (bc_ty G 0) (n, .inl (fun q => Int32.ofInt (M k0 j0 (q : Int))))) := hc0
  have hc1 : H[G.2.2.2.1 k1 j1]? = some (vp_cell (bc_ty G 0) (n, .inl (fun q => Int32.ofInt (M k1 j1 (q : Int))))) := hc1
  have hcl : (Int32.ofInt (n : Int)).toNatClampNeg = n := by rw [bc_clamp (by omega) hn, Int.toNat_natCast]
  have hz0 : (Int32.ofInt 0).toNatClampNeg = 0 := rfl
  have hnl : ¬ Int32.ofInt (n : Int) < 0 := fun h => by
    have := (bc_lt (x := (n : Int)) (y := 0) ⟨by omega, hn⟩ ⟨by omega, by omega⟩).mp h
    omega
  have hti : (Int32.ofInt (n : Int)).toInt = (n : Int) := bc_toInt ⟨by omega, hn⟩
  have hst := Nat.le_of_ble_eq_true hst
  have hnf : nativeFrameWords "java/lang/System" "arraycopy" 5 ≤ 20 := by decide
  intro T hT X
  obtain ⟨-, kA, hkA, cmA, hkkA⟩ := (hSS.1.2 0 _ (bc_tyAt hok 0 rfl)).1 n (fun q => .int (Int32.ofInt (M k0 j0 (q : Int))))
  obtain ⟨-, kB, hkB, cmB, hkkB⟩ := (hSS.1.2 0 _ (bc_tyAt hok 0 rfl)).1 n (fun q => .int (Int32.ofInt (M k1 j1 (q : Int))))
  obtain ⟨vm', X', step⟩ := X.arraycopy C.1 C.2.2.2.2.1 (hts _ w1) (hts _ w2) (hts _ w3) (hts _ w4) (src := G.2.2.2.1 k0 j0) (dst := G.2.2.2.1 k1 j1) (cs := vp_cell (bc_ty G 0) (n, .inl (fun q => Int32.ofInt (M k0 j0 (q : Int))))) (cd := vp_cell (bc_ty G 0) (n, .inl (fun q => Int32.ofInt (M k1 j1 (q : Int))))) (srcPos := Int32.ofInt 0) (destPos := Int32.ofInt 0) (n := Int32.ofInt (n : Int)) (by rw [hT]; exact hc0) (by rw [hT]; exact hc1)
    (fun _ h => by cases h) (fun _ h => by cases h) (fun h => by cases h) (fun h => by cases h) hkA hkB hkkA hkkB (by simp [refKind]) (by decide) (by decide) hnl
    (by rw [hti]; show ¬ _ > ((arrV _ n _).slots.size : Int); rw [arrV_size]; show ¬ ((0 : Int) + n > n); omega)
    (by rw [hti]; show ¬ _ > ((arrV _ n _).slots.size : Int); rw [arrV_size]; show ¬ ((0 : Int) + n > n); omega)
    (fun vm₁ _ i hi => by
      rw [hcl] at hi
      have e : (vp_cell (bc_ty G 0) (n, .inl (fun q => Int32.ofInt (M k0 j0 (q : Int))))).slots.getD ((Int32.ofInt 0).toNatClampNeg + i) .null = .int (Int32.ofInt (M k0 j0 (i : Int))) := by
        show (arrV _ n _).slots.getD _ _ = _
        rw [hz0, Nat.zero_add, Array.getD_eq_getD_getElem?, arrV_read _ _ hi]
        rfl
      refine ⟨?_, ?_⟩
      · rw [e]; rfl
      · rw [e]; exact trivial)
    (g := F0 m pc ls (vI (n : Int) :: vI 0 :: vR G k1 j1 :: vI 0 :: vR G k0 j0 :: st)) rfl (hl.1.trans C.2.2.2.1.symm) (rest := st) rfl (by rw [C.2.1]; exact hd) (by show 1 ≤ d; exact hdd) (by show 2 * 0 + _ + (nativeFrameWords "java/lang/System" "arraycopy" 5 + 11) ≤ 64 * d; omega)
  have h4 : (Int32.ofInt 0).toNatClampNeg + (Int32.ofInt (n : Int)).toNatClampNeg ≤ n := by rw [hz0, hcl]; omega
  have e0 : copied (vp_cell (bc_ty G 0) (n, .inl (fun q => Int32.ofInt (M k0 j0 (q : Int))))) (vp_cell (bc_ty G 0) (n, .inl (fun q => Int32.ofInt (M k1 j1 (q : Int))))) (Int32.ofInt 0) (Int32.ofInt 0) (Int32.ofInt (n : Int)) = vp_cell (bc_ty G 0) (n, .inl (va_cpy (fun q => Int32.ofInt (M k0 j0 (q : Int))) (fun q => Int32.ofInt (M k1 j1 (q : Int))) (Int32.ofInt 0).toNatClampNeg (Int32.ofInt 0).toNatClampNeg (Int32.ofInt (n : Int)).toNatClampNeg)) := va_copied (fun z => .int z) (bc_ty G 0) (bc_ty G 0) (fun q => Int32.ofInt (M k0 j0 (q : Int))) (fun q => Int32.ofInt (M k1 j1 (q : Int))) h4
  have e1 : copied (vp_cell (bc_ty G 0) (n, .inl (fun q => Int32.ofInt (M k0 j0 (q : Int))))) (vp_cell (bc_ty G 0) (n, .inl (fun q => Int32.ofInt (M k1 j1 (q : Int))))) (Int32.ofInt 0) (Int32.ofInt 0) (Int32.ofInt (n : Int)) = vp_cell (bc_ty G 0) (n, .inl (fun q => Int32.ofInt (M k0 j0 (q : Int)))) := by
    rw [e0, vp_cell_i, vp_cell_i]
    refine arrV_ext (fun q hq => ?_)
    rw [hz0, hcl, pk_cpy_in (by omega) (by omega)]
    simp
  rw [e1] at X' step
  have hlt : G.2.2.2.1 k1 j1 < H.size := (Array.getElem?_eq_some_iff.mp hc1).1
  have hheap : ((T.setVm vm').setCell (G.2.2.2.1 k1 j1) (vp_cell (bc_ty G 0) (n, .inl (fun q => Int32.ofInt (M k0 j0 (q : Int)))))).heap = H.setIfInBounds (G.2.2.2.1 k1 j1) (vp_cell (bc_ty G 0) (n, .inl (fun q => Int32.ofInt (M k0 j0 (q : Int))))) := by rw [← hT]; rfl
  have oq : ∀ q : Nat, q ≠ G.2.2.2.1 k1 j1 → (H.setIfInBounds (G.2.2.2.1 k1 j1) (vp_cell (bc_ty G 0) (n, .inl (fun q => Int32.ofInt (M k0 j0 (q : Int))))))[q]? = H[q]? := fun q hq => by simp [Array.getElem?_setIfInBounds, Ne.symm hq]
  have hAd : bc_A G (G.2.2.2.1 k1 j1) := hok.2.2.1 k1 j1 hj1.1 hj1.2
  obtain ⟨t, a1, b1⟩ := K p e s m args below meth c _ _ ls C hl (bc_H_row (g := M k0 j0) hok hH hj1 (by simp) oq (by rw [he1]; show (H.setIfInBounds _ _)[_]? = some _; simp [Array.getElem?_setIfInBounds, hlt])) ⟨by simp; exact hS.1, fun q g1 g2 => by
      rw [oq q (fun e => g2 (by rw [e]; exact hAd))]
      exact hS.2.1 q g1 g2, fun q hq => by
      rcases List.mem_append.mp hq with h | h
      · exact hS.2.2 q h
      · obtain ⟨z, -, hz⟩ := List.mem_map.mp h
        rw [← hz]
        exact hAd⟩ _ hheap X'
  exact ⟨t, step t a1, b1⟩
end COPY
