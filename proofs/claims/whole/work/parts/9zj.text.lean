/-! a step of the law: undo, append, truncate, errorPosition, load -/
theorem st_undo {G : bc_G} {M : bc_M} {n : Int} (hK : KK M n) (hn : n ≤ 2800) : bc_Call G yX8_undo cX8_undo 1 (some .int) 9 1 [vR G 1 0] M (AFI csS (fun k M2 => bc_Call G yX9_undo cX9_undo 2 (some .int) 12 0 [vR G 33 0] M2 (MPI n k))) := by
  refine ct_undo (n := n) (hl := hK.1) (hI := hK.li) (k1 := fun h0 => ?_) (k3a := fun h1 hz => ?_) (k3b := fun h1 hz M1 M2 hR hsi hF hB2 => ?_)
  · refine ⟨1, by simp [csS], ?_⟩
    have g0 : M 33 0 3 = 0 := hK.2.1.trans h0
    exact ct_mUndo (hl := Or.inl g0) (k1 := fun _ => mp1 hK) (k3 := fun q => absurd q (by omega)) (k3a := fun q => absurd q (by omega)) (ha := hK.a2) (hit := hK.a6) (hdi := hK.a5) (hcl := hK.a7)
  · obtain ⟨⟨hS, hV⟩, hH, hB⟩ := hK.cu h1
    have hz2 : M 33 0 2 = 0 := by rw [← hH.2.1.1]; exact hz
    refine ⟨_, rfl, ?_⟩
    have e : KE M (bc_up M 51 0 0 (w32 (-2))) := KE.o51
    have K2 := hK.e e (Int.le_refl _)
    have f2 : bc_up M 51 0 0 (w32 (-2)) 33 0 = M 33 0 := up_kne (by decide)
    have l3 : bc_up M 51 0 0 (w32 (-2)) 33 0 3 = 1 := by rw [f2]; exact hK.2.1.trans h1
    exact ct_mUndo (hl := Or.inr l3) (k1 := fun q => absurd q (by omega)) (k3 := fun _ q => absurd (by rw [f2]; exact hz2) q) (k3a := fun _ _ => mpu K2 (by rw [up_v, if_pos rfl])) (ha := K2.a2) (hit := K2.a6) (hdi := K2.a5) (hcl := K2.a7)
  · obtain ⟨⟨hS, hV⟩, hH, hB⟩ := hK.cu h1
    refine ⟨_, rfl, ?_⟩
    have fo : bc_up M2 51 0 0 (w32 (M1 15 0 0)) 51 0 0 = w32 (M1 15 0 0) := by rw [up_v, if_pos rfl]
    have eX : ∀ k j, k ≠ 51 → bc_up M2 51 0 0 (w32 (M1 15 0 0)) k j = M2 k j := fun k j hk => up_kne hk
    generalize bc_up M2 51 0 0 (w32 (M1 15 0 0)) = X at fo eX ⊢
    have eo : ∀ k j, k ≠ 51 → ¬ ((k = 15 ∧ j = 0) ∨ STP 1 k j) → ¬ bpP 0 k j → X k j = M k j := fun k j a b c => by rw [eX k j a, hF k j c, hR.1 k j b]
    have e0 : ∀ k, (k = 1 ∨ k = 2 ∨ (33 ≤ k ∧ k ≤ 38) ∨ k = 9) → X k 0 = M k 0 := fun k hk => eo k 0 (by omega) (by unfold STP; omega) (by unfold bpP; omega)
    have x33 := e0 33 (by omega)
    have x34 := e0 34 (by omega)
    have x35 := e0 35 (by omega)
    have l3 : X 33 0 3 = 1 := by rw [x33]; exact hK.2.1.trans h1
    have h2p : M 33 0 2 ≠ 0 := by rw [← hH.2.1.1]; exact hz
    refine ct_mUndo (hl := Or.inr l3) (k1 := fun q => absurd q (by omega)) (k3 := fun _ _ => ?_) (k3a := fun _ q => absurd (by rw [← x33]; exact q) h2p) (ha := by rw [x33]; exact hK.a2) (hit := by rw [x33]; exact hK.a6) (hdi := by rw [x33]; exact hK.a5) (hcl := by rw [x33]; exact hK.a7)
    have d1 : ∀ k j, k ≠ 33 → k ≠ 34 → bc_row (bc_up (bc_up X 33 0 4 0) 33 0 2 (X 33 0 2 - 1)) 34 0 (cpF (X 34 0) (fun q => X 35 0 (206 * (X 33 0 2 - 1) + q)) 0 206) k j = X k j := fun k j a b => by rw [row_kne b, up_kne a, up_kne a]
    have d4 : bc_row (bc_up (bc_up X 33 0 4 0) 33 0 2 (X 33 0 2 - 1)) 34 0 (cpF (X 34 0) (fun q => X 35 0 (206 * (X 33 0 2 - 1) + q)) 0 206) 34 0 = cpF (M 34 0) (fun q => M 35 0 (206 * (M 33 0 2 - 1) + q)) 0 206 := by rw [row_at, x34, x35, x33]
    have d3 : ∀ f, bc_row (bc_up (bc_up X 33 0 4 0) 33 0 2 (X 33 0 2 - 1)) 34 0 (cpF (X 34 0) (fun q => X 35 0 (206 * (X 33 0 2 - 1) + q)) 0 206) 33 0 f = if f = 2 then M 33 0 2 - 1 else if f = 4 then 0 else M 33 0 f := fun f => by rw [row_kne (by decide), up_v, up_v, x33]
    generalize bc_row (bc_up (bc_up X 33 0 4 0) 33 0 2 (X 33 0 2 - 1)) 34 0 (cpF (X 34 0) (fun q => X 35 0 (206 * (X 33 0 2 - 1) + q)) 0 206) = Z at d1 d3 d4 ⊢
    have f2 : Z 33 0 2 = M 33 0 2 - 1 := by rw [d3, if_pos rfl]
    have fo3 : ∀ f, f ≠ 2 → f ≠ 4 → Z 33 0 f = M 33 0 f := fun f a b => by rw [d3, if_neg a, if_neg b]
    have zX : ∀ k, (k = 1 ∨ k = 2 ∨ (35 ≤ k ∧ k ≤ 38) ∨ k = 9) → Z k 0 = M k 0 := fun k hk => by rw [d1 k 0 (by omega) (by omega), e0 k (by omega)]
    have hun := hH.undo hz hR (M' := Z) (fun a x y k j hk => by
      unfold STP at hk
      rw [d1 k j (by omega) (by omega), eX k j (by omega), hF k j (by unfold bpP; omega)]) (by rw [d1 15 0 (by decide) (by decide), eX 15 0 (by decide), hF 15 0 (by unfold bpP; omega)]) d4 (zX 35 (by omega)) f2 ⟨fo3 5 (by decide) (by decide), fo3 6 (by decide) (by decide), fo3 7 (by decide) (by decide), zX 36 (by omega), zX 37 (by omega)⟩
    have hB3 : BS Z 0 1 := hB2.cong (fun k hk => by rw [d1 k 1 (by omega) (by omega), eX k 1 (by omega)]) (fun k hk => by rw [d1 k 0 (by omega) (by omega), eX k 0 (by omega)]) (fun q _ _ => by rw [d1 21 q (by decide) (by decide), eX 21 q (by decide)]) (by rw [hF 6 1 (by unfold bpP; omega)]; exact hsi.1.1.2.1.2)
    have hKZ : KK Z n := by
      unfold KK
      rw [f2, fo3 3 (by decide) (by decide), fo3 5 (by decide) (by decide), fo3 6 (by decide) (by decide), fo3 7 (by decide) (by decide), fo3 18 (by decide) (by decide), zX 1 (by omega), zX 9 (by omega)]
      refine ⟨hK.1, hK.2.1, ?_, hK.2.2.2.1, hK.2.2.2.2.1, by have := hK.a2; omega, hK.a5, hK.a6, hK.a7, hun.2.1, hK.n0, hK.2.2.2.2.2.2.2.2.2.2.2.1, fun _ => ⟨hun.1, hun.2, hB3⟩⟩
      unfold TX
      rw [fo3 11 (by decide) (by decide), zX 1 (by omega), zX 38 (by omega), zX 2 (by omega)]
      exact hK.2.2.1
    refine ⟨_, rfl, by rw [d3, if_neg (by decide), if_pos rfl], fun _ => ?_, hKZ.e KE.rf (by omega)⟩
    rw [d1 51 0 (by decide) (by decide), fo, hR.2.2.2, hH.2.1.1, x33]
/-- the text, the error's place and the draft may change -/
theorem KK.txt {M P : bc_M} {n m : Int} (hK : KK M n) (hm : n ≤ m) (hF : Fr (fun k j => k = 1 ∨ k = 2 ∨ k = 33 ∨ k = 38 ∨ IR k j ∨ rdP 0 k j) M P) (e3 : P 1 0 3 = M 1 0 3) (f33 : ∀ f, (f = 2 ∨ f = 3 ∨ f = 5 ∨ f = 6 ∨ f = 7) → P 33 0 f = M 33 0 f) (hT : TX P) (h18 : P 33 0 18 = P 1 0 2) (h9 : ∀ q, 0 ≤ q → q < 16 → 0 ≤ P 9 0 q ∧ P 9 0 q < 10000) : KK P m := by
  have e15 : P 15 0 = M 15 0 := hF 15 0 (by unfold IR bpP rdP; omega)
  have e34 : P 34 0 = M 34 0 := hF 34 0 (by unfold IR bpP rdP; omega)
  have e35 : P 35 0 = M 35 0 := hF 35 0 (by unfold IR bpP rdP; omega)
  have hMK : MK M P := ⟨f33 5 (by decide), f33 6 (by decide), f33 7 (by decide), hF 36 0 (by unfold IR bpP rdP; omega), hF 37 0 (by unfold IR bpP rdP; omega)⟩
  have eS : ∀ a, 1 ≤ a → a ≤ 11 → ∀ k j, STP a k j → P k j = M k j := fun a _ _ k j hk => hF k j (by unfold IR bpP rdP; unfold STP at hk; omega)
  unfold KK
  rw [e3, f33 2 (by decide), f33 3 (by decide), f33 5 (by decide), f33 6 (by decide), f33 7 (by decide), e15]
  refine ⟨hK.1, hK.2.1, hT, h18, h9, hK.a2, hK.a5, hK.a6, hK.a7, hK.2.2.2.2.2.2.2.2.2.1, by have := hK.n0; omega, hK.2.2.2.2.2.2.2.2.2.2.2.1, fun h1 => ?_⟩
  obtain ⟨c, hh, hb⟩ := hK.cu h1
  have h63 : M 6 1 3 ≤ 16 := by rw [c.1.1.2.2.2]; exact hK.a6.2
  exact ⟨c.q (eS 1 (by omega) (by omega)) (by rw [e34]; exact AG.rf) hMK hm, hh.q (fun a x y => eS a (by omega) y) e15 e35 (f33 2 (by decide)) hMK hm, hb.cong (fun k hk => eS 1 (by omega) (by omega) k 1 (Or.inl ⟨by omega, rfl⟩)) (fun k hk => hF k 0 (by unfold IR bpP rdP; omega)) (fun q x y => hF 21 q (by unfold IR bpP rdP; omega)) h63⟩
theorem st_truncate {G : bc_G} {M : bc_M} {n v : Int} (h_v : -2147483648 ≤ v ∧ v < 2147483648) (hK : KK M n) : bc_Call G yX8_truncate cX8_truncate 2 (some .int) 9 1 [vR G 1 0, vI v] M (AFI csT (fun k M2 => bc_Call G yX9_truncate cX9_truncate 2 (some .int) 2 0 [vR G 33 0, vI v] M2 (MPI n k))) := by
  obtain ⟨⟨t1, t2, t3⟩, t4⟩ := hK.2.2.1
  refine ct_truncate h_v ⟨t2, t3⟩ (fun hb => ?_) (fun a b => ?_)
  · refine ⟨1, by simp [csT], ?_⟩
    exact ct_mTruncate (by omega) (fun _ => mp1 hK) (fun a b => absurd hb (by omega))
  · refine ⟨_, rfl, ?_⟩
    have x33 : bc_up (bc_up M 1 0 1 v) 51 0 0 (w32 v) 33 0 = M 33 0 := by rw [up_kne (by decide), up_kne (by decide)]
    have xo : ∀ k j, k ≠ 51 → k ≠ 1 → bc_up (bc_up M 1 0 1 v) 51 0 0 (w32 v) k j = M k j := fun k j a b => by rw [up_kne a, up_kne b]
    have x1 : bc_up (bc_up M 1 0 1 v) 51 0 0 (w32 v) 1 0 = bc_u (M 1 0) 1 v := by rw [up_kne (by decide), up_at]
    have fo : bc_up (bc_up M 1 0 1 v) 51 0 0 (w32 v) 51 0 0 = w32 v := by rw [up_v, if_pos rfl]
    generalize bc_up (bc_up M 1 0 1 v) 51 0 0 (w32 v) = X at x33 xo x1 fo ⊢
    refine ct_mTruncate (by rw [x33]; omega) (fun hb => absurd hb (by rw [x33]; omega)) (fun _ _ => ?_)
    have p33 : ∀ f, bc_up (bc_up X 33 0 4 0) 33 0 11 v 33 0 f = if f = 11 then v else if f = 4 then 0 else M 33 0 f := fun f => by rw [up_v, up_v, x33]
    have po : ∀ k j, k ≠ 33 → bc_up (bc_up X 33 0 4 0) 33 0 11 v k j = X k j := fun k j h => by rw [up_kne h, up_kne h]
    generalize bc_up (bc_up X 33 0 4 0) 33 0 11 v = P at p33 po ⊢
    refine ⟨v, rfl, by rw [p33]; rfl, fun _ => by rw [po 51 0 (by decide)]; exact fo, hK.txt (by omega) (fun k j h => by rw [po k j (by omega), xo k j (by unfold IR at h; omega) (by omega)]) (by rw [po 1 0 (by decide), x1, u_ne (by decide)]) (fun f hf => by rw [p33, if_neg (by omega), if_neg (by omega)]) ?_ ?_ ?_⟩
    · unfold TX
      rw [p33, if_pos rfl, po 1 0 (by decide), x1, u_at, po 38 0 (by decide), xo 38 0 (by decide) (by decide), po 2 0 (by decide), xo 2 0 (by decide) (by decide)]
      exact ⟨⟨rfl, by omega, by omega⟩, fun q a c => t4 q a (by omega)⟩
    · rw [p33, if_neg (by decide), if_neg (by decide), po 1 0 (by decide), x1, u_ne (by decide)]
      exact hK.2.2.2.1
    · rw [po 9 0 (by decide), xo 9 0 (by decide) (by decide)]
      exact hK.2.2.2.2.1
theorem st_append {G : bc_G} {M : bc_M} {n a b c d e : Int} (hK : KK M n) : bc_Call G yX8_append cX8_append 6 (some .int) 9 1 [vR G 1 0, vI a, vI b, vI c, vI d, vI e] M (AFI csS (fun k M2 => bc_Call G yX9_append cX9_append 6 (some .int) 2 0 [vR G 33 0, vI a, vI b, vI c, vI d, vI e] M2 (MPI n k))) := by
  obtain ⟨⟨t1, t2, t3⟩, t4⟩ := hK.2.2.1
  refine ct_append ⟨t2, t3⟩ (fun hb => ?_) (fun hb => ?_)
  · refine ⟨1, by simp [csS], ?_⟩
    exact ct_mAppend (by omega) (fun _ => mp1 hK) (fun h => absurd hb (by omega))
  · refine ⟨_, rfl, ?_⟩
    have a1 : ∀ k j, ¬ ((k = 1 ∨ k = 2) ∧ j = 0) → aw e 4 (aw d 4 (aw c 4 (aw b 4 (aw a 4 M)))) k j = M k j := fun k j h => by rw [(aw_fr 4 _).1 k j h, (aw_fr 4 _).1 k j h, (aw_fr 4 _).1 k j h, (aw_fr 4 _).1 k j h, (aw_fr 4 _).1 k j h]
    have a2 : ∀ f, f ≠ 1 → aw e 4 (aw d 4 (aw c 4 (aw b 4 (aw a 4 M)))) 1 0 f = M 1 0 f := fun f h => by rw [(aw_fr 4 _).2.1 f h, (aw_fr 4 _).2.1 f h, (aw_fr 4 _).2.1 f h, (aw_fr 4 _).2.1 f h, (aw_fr 4 _).2.1 f h]
    have a3 : aw e 4 (aw d 4 (aw c 4 (aw b 4 (aw a 4 M)))) 1 0 1 = M 1 0 1 + 20 := by rw [aw_len, aw_len, aw_len, aw_len, aw_len]; omega
    have a4 : ∀ N : bc_M, TXo M N → TXo (aw e 4 (aw d 4 (aw c 4 (aw b 4 (aw a 4 M))))) (pw e 4 (pw d 4 (pw c 4 (pw b 4 (pw a 4 N))))) := fun N h => TXo.w 4 _ _ (TXo.w 4 _ _ (TXo.w 4 _ _ (TXo.w 4 _ _ (TXo.w 4 _ _ h))))
    generalize aw e 4 (aw d 4 (aw c 4 (aw b 4 (aw a 4 M)))) = A at a1 a2 a3 a4 ⊢
    have xo : ∀ k j, k ≠ 51 → bc_up A 51 0 0 (w32 (M 1 0 1 + 20)) k j = A k j := fun k j h => up_kne h
    have fo : bc_up A 51 0 0 (w32 (M 1 0 1 + 20)) 51 0 0 = w32 (M 1 0 1 + 20) := by rw [up_v, if_pos rfl]
    generalize bc_up A 51 0 0 (w32 (M 1 0 1 + 20)) = X at xo fo ⊢
    have x33 : X 33 0 = M 33 0 := by rw [xo 33 0 (by decide), a1 33 0 (by omega)]
    refine ct_mAppend (by rw [x33]; omega) (fun h => absurd h (by rw [x33]; omega)) (fun _ => ?_)
    have hT := a4 (bc_up X 33 0 4 0) ⟨by rw [up_v, if_neg (by decide), x33]; exact t1, t2, fun q x y => by rw [up_kne (by decide), xo 38 0 (by decide), a1 38 0 (by omega)]; exact t4 q x y⟩
    have p1 : ∀ k j, ¬ ((k = 33 ∨ k = 38) ∧ j = 0) → pw e 4 (pw d 4 (pw c 4 (pw b 4 (pw a 4 (bc_up X 33 0 4 0))))) k j = bc_up X 33 0 4 0 k j := fun k j h => by rw [(pw_fr 4 _).1 k j h, (pw_fr 4 _).1 k j h, (pw_fr 4 _).1 k j h, (pw_fr 4 _).1 k j h, (pw_fr 4 _).1 k j h]
    have p2 : ∀ f, f ≠ 11 → pw e 4 (pw d 4 (pw c 4 (pw b 4 (pw a 4 (bc_up X 33 0 4 0))))) 33 0 f = bc_up X 33 0 4 0 33 0 f := fun f h => by rw [(pw_fr 4 _).2.1 f h, (pw_fr 4 _).2.1 f h, (pw_fr 4 _).2.1 f h, (pw_fr 4 _).2.1 f h, (pw_fr 4 _).2.1 f h]
    generalize pw e 4 (pw d 4 (pw c 4 (pw b 4 (pw a 4 (bc_up X 33 0 4 0))))) = P at hT p1 p2 ⊢
    have po : ∀ k j, k ≠ 33 → k ≠ 38 → P k j = X k j := fun k j h h' => by rw [p1 k j (by omega), up_kne h]
    refine ⟨_, rfl, by rw [p2 4 (by decide), up_v, if_pos rfl], fun _ => by rw [po 51 0 (by decide) (by decide), fo, x33, t1], hK.txt (by omega) (fun k j h => by rw [po k j (by omega) (by omega), xo k j (by unfold IR at h; omega), a1 k j (by omega)]) (by rw [po 1 0 (by decide) (by decide), xo 1 0 (by decide), a2 3 (by decide)]) (fun f hf => by rw [p2 f (by omega), up_v, if_neg (by omega), x33]) ?_ ?_ ?_⟩
    · obtain ⟨u1, u2, u3⟩ := hT
      unfold TX
      rw [po 1 0 (by decide) (by decide), xo 1 0 (by decide), po 2 0 (by decide) (by decide), xo 2 0 (by decide)]
      exact ⟨⟨u1, u2, by omega⟩, u3⟩
    · rw [p2 18 (by decide), up_v, if_neg (by decide), x33, po 1 0 (by decide) (by decide), xo 1 0 (by decide), a2 2 (by decide)]
      exact hK.2.2.2.1
    · rw [po 9 0 (by decide) (by decide), xo 9 0 (by decide), a1 9 0 (by omega)]
      exact hK.2.2.2.2.1
theorem st_errorPosition {G : bc_G} {M : bc_M} {n : Int} (hK : KK M n) : bc_Call G yX8_errorPosition cX8_errorPosition 1 (some .int) 9 0 [vR G 1 0] M (fun r Y => ∃ x, r = .inr (some (vI x)) ∧ bc_Call G yX9_errorPosition cX9_errorPosition 1 (some .int) 12 0 [vR G 33 0] Y (fun r' Z => r' = .inr (some (vI x)) ∧ KK Z (n + 1))) := by
  refine ct_errorPosition ⟨_, rfl, ct_mErrorPosition ⟨?_, hK.e KE.up4 (by omega)⟩⟩
  rw [hK.2.2.2.1]
theorem QI.zero {g : Int → Int} {ni n : Int} (hn : 0 ≤ n) (h : ∀ q, 0 ≤ q → q < 38 → g q = 0) : QI g ni n := by
  unfold QI
  rw [h 0 (by decide) (by decide), h 1 (by decide) (by decide), h 2 (by decide) (by decide), h 3 (by decide) (by decide), h 4 (by decide) (by decide), h 5 (by decide) (by decide)]
  have hb : ∀ i, bs 0 i = false := fun i => by
    unfold bs
    exact Nat.zero_testBit _
  refine ⟨by omega, by omega, by omega, by omega, by omega, fun i a b => ?_, fun i _ _ => hb i, fun x y _ _ _ _ bx => ?_⟩
  · rw [h (6 + i) (by omega) (by omega), h (22 + i) (by omega) (by omega)]
    omega
  · rw [hb x] at bx
    exact absurd bx (by decide)
