/-! the constructors -/
theorem zi_X0 {G : bc_G} {C : bz_C} {x : Int} (hA : bz_ad G) (h_x : 0 ≤ x ∧ x < 50) (hP : PL G C (zC x + 1)) : bz_Call G yX0_init cX0_init 1 1 2 32 [vR G 12 x] (bz_H G (zC x + 1) (cu C 12 x (.inr (0, [vI 0, vI 0, vI 0, vI 0, vI 0, vI 0, vI 0, vI 0, vI 0, .null, .null])))) (bz_H G (zC x + 3) (cu C 12 x (bz_C0 G 12 x))) := by
  refine bz_enter (L := [some (vR G 12 x)]) (by decide) rfl rfl rfl ?_
  refine wk_aload_n eX0_init_0 rfl ?_
  refine wk_objInit eX0_init_1 mw_239 mw_134 mw_135 ⟨by decide, by decide⟩ ?_
  refine wk_aload_n eX0_init_4 rfl ?_
  refine wk_iconst eX0_init_5 ?_
  refine wk_put1 (k := 12) (j := x) (f := 0) (ci := 0) eX0_init_6 rfl in_X0 tyX0_ok nmX0 (by decide) mw_240 rfl (Nat.le_of_ble_eq_true rfl) rfl rfl (show (0 : Int) ≤ x ∧ (x : Int) < 50 by omega) (by show zC x < _; omega) ?_
  refine wk_aload_n eX0_init_9 rfl ?_
  refine wk_iconst eX0_init_10 ?_
  refine wk_put1 (k := 12) (j := x) (f := 1) (ci := 0) eX0_init_11 rfl in_X0 tyX0_ok nmX0 (by decide) mw_242 rfl (Nat.le_of_ble_eq_true rfl) rfl rfl (show (0 : Int) ≤ x ∧ (x : Int) < 50 by omega) (by show zC x < _; omega) ?_
  refine wk_aload_n eX0_init_14 rfl ?_
  refine wk_iconst eX0_init_15 ?_
  refine wk_put1 (k := 12) (j := x) (f := 2) (ci := 0) eX0_init_16 rfl in_X0 tyX0_ok nmX0 (by decide) mw_243 rfl (Nat.le_of_ble_eq_true rfl) rfl rfl (show (0 : Int) ≤ x ∧ (x : Int) < 50 by omega) (by show zC x < _; omega) ?_
  refine wk_aload_n eX0_init_19 rfl ?_
  refine wk_iconst eX0_init_20 ?_
  refine wk_put1 (k := 12) (j := x) (f := 3) (ci := 0) eX0_init_21 rfl in_X0 tyX0_ok nmX0 (by decide) mw_246 rfl (Nat.le_of_ble_eq_true rfl) rfl rfl (show (0 : Int) ≤ x ∧ (x : Int) < 50 by omega) (by show zC x < _; omega) ?_
  refine wk_aload_n eX0_init_24 rfl ?_
  refine wk_iconst eX0_init_25 ?_
  refine wk_put1 (k := 12) (j := x) (f := 4) (ci := 0) eX0_init_26 rfl in_X0 tyX0_ok nmX0 (by decide) mw_248 rfl (Nat.le_of_ble_eq_true rfl) rfl rfl (show (0 : Int) ≤ x ∧ (x : Int) < 50 by omega) (by show zC x < _; omega) ?_
  refine wk_aload_n eX0_init_29 rfl ?_
  refine wk_iconst eX0_init_30 ?_
  refine wk_put1 (k := 12) (j := x) (f := 5) (ci := 0) eX0_init_31 rfl in_X0 tyX0_ok nmX0 (by decide) mw_250 rfl (Nat.le_of_ble_eq_true rfl) rfl rfl (show (0 : Int) ≤ x ∧ (x : Int) < 50 by omega) (by show zC x < _; omega) ?_
  refine wk_aload_n eX0_init_34 rfl ?_
  refine wk_iconst eX0_init_35 ?_
  refine wk_put1 (k := 12) (j := x) (f := 6) (ci := 0) eX0_init_36 rfl in_X0 tyX0_ok nmX0 (by decide) mw_252 rfl (Nat.le_of_ble_eq_true rfl) rfl rfl (show (0 : Int) ≤ x ∧ (x : Int) < 50 by omega) (by show zC x < _; omega) ?_
  refine wk_aload_n eX0_init_39 rfl ?_
  refine wk_iconst eX0_init_40 ?_
  refine wk_put1 (k := 12) (j := x) (f := 7) (ci := 0) eX0_init_41 rfl in_X0 tyX0_ok nmX0 (by decide) mw_254 rfl (Nat.le_of_ble_eq_true rfl) rfl rfl (show (0 : Int) ≤ x ∧ (x : Int) < 50 by omega) (by show zC x < _; omega) ?_
  refine wk_aload_n eX0_init_44 rfl ?_
  refine wk_iconst eX0_init_45 ?_
  refine wk_put1 (k := 12) (j := x) (f := 8) (ci := 0) eX0_init_46 rfl in_X0 tyX0_ok nmX0 (by decide) mw_256 rfl (Nat.le_of_ble_eq_true rfl) rfl rfl (show (0 : Int) ≤ x ∧ (x : Int) < 50 by omega) (by show zC x < _; omega) ?_
  refine wk_aload_n eX0_init_49 rfl ?_
  refine wk_bipush eX0_init_50 ?_
  refine wk_newi (k := 13) (j := x) (N' := 16) hA eX0_init_52 (by rw [cu_ne (fun q => absurd q.1 (by decide))]; exact hP 13 x (by omega) (show (0 : Int) ≤ x ∧ (x : Int) < 50 by omega).2 (by show _ ≤ zC x + 1; omega)) rfl rfl (by decide) (show (0 : Int) ≤ x ∧ (x : Int) < 50 by omega) (by show zC x + 1 = _; omega) ⟨by decide, by decide⟩ ?_
  refine wk_put1 (k := 12) (j := x) (f := 9) (ci := 0) eX0_init_54 rfl in_X0 tyX0_ok nmX0 (by decide) mw_257 rfl (Nat.le_of_ble_eq_true rfl) rfl rfl (show (0 : Int) ≤ x ∧ (x : Int) < 50 by omega) (by show zC x < _; omega) ?_
  refine wk_aload_n eX0_init_57 rfl ?_
  refine wk_bipush eX0_init_58 ?_
  refine wk_newi (k := 14) (j := x) (N' := 16) hA eX0_init_60 (by rw [cu_ne (fun q => absurd q.1 (by decide))]; exact hP 14 x (by omega) (show (0 : Int) ≤ x ∧ (x : Int) < 50 by omega).2 (by show _ ≤ zC x + 2; omega)) rfl rfl (by decide) (show (0 : Int) ≤ x ∧ (x : Int) < 50 by omega) (by show zC x + 2 = _; omega) ⟨by decide, by decide⟩ ?_
  refine wk_put1 (k := 12) (j := x) (f := 10) (ci := 0) eX0_init_62 rfl in_X0 tyX0_ok nmX0 (by decide) mw_259 rfl (Nat.le_of_ble_eq_true rfl) rfl rfl (show (0 : Int) ≤ x ∧ (x : Int) < 50 by omega) (by show zC x < _; omega) ?_
  exact wk_return eX0_init_65 (fun H h => bz_H_n h (by omega))
theorem zi_X5 {G : bc_G} {C : bz_C} {z : Int} (hA : bz_ad G) (h_z : 0 ≤ z ∧ z < 13) (hP : PL G C (zT z + 1)) : bz_Call G yX5_init cX5_init 1 1 4 52 [vR G 6 z] (bz_H G (zT z + 1) (cu C 6 z (.inr (5, [vI 0, vI 0, vI 0, vI 0, .null, .null, .null, .null])))) (bz_H G (zT z + 5) (cu C 6 z (bz_C0 G 6 z))) := by
  refine bz_enter (L := [some (vR G 6 z)]) (by decide) rfl rfl rfl ?_
  refine wk_aload_n eX5_init_0 rfl ?_
  refine wk_objInit eX5_init_1 mw_177 mw_134 mw_135 ⟨by decide, by decide⟩ ?_
  refine wk_aload_n eX5_init_4 rfl ?_
  refine wk_iconst eX5_init_5 ?_
  refine wk_put1 (k := 6) (j := z) (f := 0) (ci := 5) eX5_init_6 rfl in_X5 tyX5_ok nmX5 (by decide) mw_178 rfl (Nat.le_of_ble_eq_true rfl) rfl rfl (show (0 : Int) ≤ z ∧ (z : Int) < 13 by omega) (by show zT z < _; omega) ?_
  refine wk_aload_n eX5_init_9 rfl ?_
  refine wk_iconst eX5_init_10 ?_
  refine wk_put1 (k := 6) (j := z) (f := 1) (ci := 5) eX5_init_11 rfl in_X5 tyX5_ok nmX5 (by decide) mw_182 rfl (Nat.le_of_ble_eq_true rfl) rfl rfl (show (0 : Int) ≤ z ∧ (z : Int) < 13 by omega) (by show zT z < _; omega) ?_
  refine wk_aload_n eX5_init_14 rfl ?_
  refine wk_iconst eX5_init_15 ?_
  refine wk_put1 (k := 6) (j := z) (f := 2) (ci := 5) eX5_init_16 rfl in_X5 tyX5_ok nmX5 (by decide) mw_186 rfl (Nat.le_of_ble_eq_true rfl) rfl rfl (show (0 : Int) ≤ z ∧ (z : Int) < 13 by omega) (by show zT z < _; omega) ?_
  refine wk_aload_n eX5_init_19 rfl ?_
  refine wk_iconst eX5_init_20 ?_
  refine wk_put1 (k := 6) (j := z) (f := 3) (ci := 5) eX5_init_21 rfl in_X5 tyX5_ok nmX5 (by decide) mw_192 rfl (Nat.le_of_ble_eq_true rfl) rfl rfl (show (0 : Int) ≤ z ∧ (z : Int) < 13 by omega) (by show zT z < _; omega) ?_
  refine wk_aload_n eX5_init_24 rfl ?_
  refine wk_iconst eX5_init_25 ?_
  refine wk_newi (k := 7) (j := z) (N' := 4) hA eX5_init_26 (by rw [cu_ne (fun q => absurd q.1 (by decide))]; exact hP 7 z (by omega) (show (0 : Int) ≤ z ∧ (z : Int) < 13 by omega).2 (by show _ ≤ zT z + 1; omega)) rfl rfl (by decide) (show (0 : Int) ≤ z ∧ (z : Int) < 13 by omega) (by show zT z + 1 = _; omega) ⟨by decide, by decide⟩ ?_
  refine wk_put1 (k := 6) (j := z) (f := 4) (ci := 5) eX5_init_28 rfl in_X5 tyX5_ok nmX5 (by decide) mw_199 rfl (Nat.le_of_ble_eq_true rfl) rfl rfl (show (0 : Int) ≤ z ∧ (z : Int) < 13 by omega) (by show zT z < _; omega) ?_
  refine wk_aload_n eX5_init_31 rfl ?_
  refine wk_bipush eX5_init_32 ?_
  refine wk_newi (k := 8) (j := z) (N' := 16) hA eX5_init_34 (by rw [cu_ne (fun q => absurd q.1 (by decide))]; exact hP 8 z (by omega) (show (0 : Int) ≤ z ∧ (z : Int) < 13 by omega).2 (by show _ ≤ zT z + 2; omega)) rfl rfl (by decide) (show (0 : Int) ≤ z ∧ (z : Int) < 13 by omega) (by show zT z + 2 = _; omega) ⟨by decide, by decide⟩ ?_
  refine wk_put1 (k := 6) (j := z) (f := 5) (ci := 5) eX5_init_36 rfl in_X5 tyX5_ok nmX5 (by decide) mw_203 rfl (Nat.le_of_ble_eq_true rfl) rfl rfl (show (0 : Int) ≤ z ∧ (z : Int) < 13 by omega) (by show zT z < _; omega) ?_
  refine wk_aload_n eX5_init_39 rfl ?_
  refine wk_bipush eX5_init_40 ?_
  refine wk_newi (k := 9) (j := z) (N' := 16) hA eX5_init_42 (by rw [cu_ne (fun q => absurd q.1 (by decide))]; exact hP 9 z (by omega) (show (0 : Int) ≤ z ∧ (z : Int) < 13 by omega).2 (by show _ ≤ zT z + 3; omega)) rfl rfl (by decide) (show (0 : Int) ≤ z ∧ (z : Int) < 13 by omega) (by show zT z + 3 = _; omega) ⟨by decide, by decide⟩ ?_
  refine wk_put1 (k := 6) (j := z) (f := 6) (ci := 5) eX5_init_44 rfl in_X5 tyX5_ok nmX5 (by decide) mw_208 rfl (Nat.le_of_ble_eq_true rfl) rfl rfl (show (0 : Int) ≤ z ∧ (z : Int) < 13 by omega) (by show zT z < _; omega) ?_
  refine wk_aload_n eX5_init_47 rfl ?_
  refine wk_bipush eX5_init_48 ?_
  refine wk_newi (k := 10) (j := z) (N' := 16) hA eX5_init_50 (by rw [cu_ne (fun q => absurd q.1 (by decide))]; exact hP 10 z (by omega) (show (0 : Int) ≤ z ∧ (z : Int) < 13 by omega).2 (by show _ ≤ zT z + 4; omega)) rfl rfl (by decide) (show (0 : Int) ≤ z ∧ (z : Int) < 13 by omega) (by show zT z + 4 = _; omega) ⟨by decide, by decide⟩ ?_
  refine wk_put1 (k := 6) (j := z) (f := 7) (ci := 5) eX5_init_52 rfl in_X5 tyX5_ok nmX5 (by decide) mw_212 rfl (Nat.le_of_ble_eq_true rfl) rfl rfl (show (0 : Int) ≤ z ∧ (z : Int) < 13 by omega) (by show zT z < _; omega) ?_
  exact wk_return eX5_init_55 (fun H h => bz_H_n h (by omega))
theorem zi_X2 {G : bc_G} {C : bz_C} (hA : bz_ad G) (hP : PL G C (2 + 1)) : bz_Call G yX2_init cX2_init 1 1 1 0 [vR G 3 0] (bz_H G (2 + 1) (cu C 3 0 (.inr (2, [.null, vI 0, vI 0, vI 0, vI 0, vI 0, vI 0])))) (bz_H G (2 + 2) (cu C 3 0 (bz_C0 G 3 0))) := by
  refine bz_enter (L := [some (vR G 3 0)]) (by decide) rfl rfl rfl ?_
  refine wk_aload_n eX2_init_0 rfl ?_
  refine wk_objInit eX2_init_1 mw_141 mw_134 mw_135 ⟨by decide, by decide⟩ ?_
  refine wk_aload_n eX2_init_4 rfl ?_
  refine wk_iconst eX2_init_5 ?_
  refine wk_newa (k := 4) (j := 0) (t := 1) (N' := 0) (ty := .byte) (a1 := .inl (fun _ => (0 : Int32))) hA eX2_init_6 mw_165 rfl rfl (fun _ _ h => h) (by rw [cu_ne (fun q => absurd q.1 (by decide))]; exact hP 4 0 (by omega) (show (0 : Int) ≤ 0 ∧ (0 : Int) < 1 by omega).2 (by show _ ≤ 3; omega)) (fun _ => rfl) rfl (by decide) (by decide) (show (0 : Int) ≤ 0 ∧ (0 : Int) < 1 by omega) (by show 3 = _; omega) ⟨by decide, by decide⟩ ?_
  refine wk_put1 (k := 3) (j := 0) (f := 0) (ci := 2) eX2_init_8 rfl in_X2 tyX2_ok nmX2 (by decide) mw_142 rfl (Nat.le_of_ble_eq_true rfl) rfl rfl (show (0 : Int) ≤ 0 ∧ (0 : Int) < 1 by omega) (by show 2 < _; omega) ?_
  refine wk_aload_n eX2_init_11 rfl ?_
  refine wk_iconst eX2_init_12 ?_
  refine wk_put1 (k := 3) (j := 0) (f := 1) (ci := 2) eX2_init_13 rfl in_X2 tyX2_ok nmX2 (by decide) mw_143 rfl (Nat.le_of_ble_eq_true rfl) rfl rfl (show (0 : Int) ≤ 0 ∧ (0 : Int) < 1 by omega) (by show 2 < _; omega) ?_
  refine wk_aload_n eX2_init_16 rfl ?_
  refine wk_iconst eX2_init_17 ?_
  refine wk_put1 (k := 3) (j := 0) (f := 2) (ci := 2) eX2_init_18 rfl in_X2 tyX2_ok nmX2 (by decide) mw_144 rfl (Nat.le_of_ble_eq_true rfl) rfl rfl (show (0 : Int) ≤ 0 ∧ (0 : Int) < 1 by omega) (by show 2 < _; omega) ?_
  refine wk_aload_n eX2_init_21 rfl ?_
  refine wk_iconst eX2_init_22 ?_
  refine wk_put1 (k := 3) (j := 0) (f := 3) (ci := 2) eX2_init_23 rfl in_X2 tyX2_ok nmX2 (by decide) mw_145 rfl (Nat.le_of_ble_eq_true rfl) rfl rfl (show (0 : Int) ≤ 0 ∧ (0 : Int) < 1 by omega) (by show 2 < _; omega) ?_
  refine wk_aload_n eX2_init_26 rfl ?_
  refine wk_iconst eX2_init_27 ?_
  refine wk_put1 (k := 3) (j := 0) (f := 4) (ci := 2) eX2_init_28 rfl in_X2 tyX2_ok nmX2 (by decide) mw_147 rfl (Nat.le_of_ble_eq_true rfl) rfl rfl (show (0 : Int) ≤ 0 ∧ (0 : Int) < 1 by omega) (by show 2 < _; omega) ?_
  refine wk_aload_n eX2_init_31 rfl ?_
  refine wk_iconst eX2_init_32 ?_
  refine wk_put1 (k := 3) (j := 0) (f := 5) (ci := 2) eX2_init_33 rfl in_X2 tyX2_ok nmX2 (by decide) mw_148 rfl (Nat.le_of_ble_eq_true rfl) rfl rfl (show (0 : Int) ≤ 0 ∧ (0 : Int) < 1 by omega) (by show 2 < _; omega) ?_
  refine wk_aload_n eX2_init_36 rfl ?_
  refine wk_iconst eX2_init_37 ?_
  refine wk_put1 (k := 3) (j := 0) (f := 6) (ci := 2) eX2_init_38 rfl in_X2 tyX2_ok nmX2 (by decide) mw_149 rfl (Nat.le_of_ble_eq_true rfl) rfl rfl (show (0 : Int) ≤ 0 ∧ (0 : Int) < 1 by omega) (by show 2 < _; omega) ?_
  exact wk_return eX2_init_41 (fun H h => bz_H_n h (by omega))
theorem zi_X7 {G : bc_G} {C : bz_C} (hA : bz_ad G) (hP : PL G C (288 + 1)) : bz_Call G yX7_init cX7_init 1 1 4 28 [vR G 25 0] (bz_H G (288 + 1) (cu C 25 0 (.inr (7, [.null, .null, .null, vJ 0, vI 0, .null])))) (bz_H G (288 + 5) (cu C 25 0 (bz_C0 G 25 0))) := by
  refine bz_enter (L := [some (vR G 25 0)]) (by decide) rfl rfl rfl ?_
  refine wk_aload_n eX7_init_0 rfl ?_
  refine wk_objInit eX7_init_1 mw_375 mw_134 mw_135 ⟨by decide, by decide⟩ ?_
  refine wk_aload_n eX7_init_4 rfl ?_
  refine wk_bipush eX7_init_5 ?_
  refine wk_newi (k := 26) (j := 0) (N' := 16) hA eX7_init_7 (by rw [cu_ne (fun q => absurd q.1 (by decide))]; exact hP 26 0 (by omega) (show (0 : Int) ≤ 0 ∧ (0 : Int) < 1 by omega).2 (by show _ ≤ 289; omega)) rfl rfl (by decide) (show (0 : Int) ≤ 0 ∧ (0 : Int) < 1 by omega) (by show 289 = _; omega) ⟨by decide, by decide⟩ ?_
  refine wk_put1 (k := 25) (j := 0) (f := 0) (ci := 7) eX7_init_9 rfl in_X7 tyX7_ok nmX7 (by decide) mw_376 rfl (Nat.le_of_ble_eq_true rfl) rfl rfl (show (0 : Int) ≤ 0 ∧ (0 : Int) < 1 by omega) (by show 288 < _; omega) ?_
  refine wk_aload_n eX7_init_12 rfl ?_
  refine wk_iconst eX7_init_13 ?_
  refine wk_newi (k := 27) (j := 0) (N' := 4) hA eX7_init_14 (by rw [cu_ne (fun q => absurd q.1 (by decide))]; exact hP 27 0 (by omega) (show (0 : Int) ≤ 0 ∧ (0 : Int) < 1 by omega).2 (by show _ ≤ 290; omega)) rfl rfl (by decide) (show (0 : Int) ≤ 0 ∧ (0 : Int) < 1 by omega) (by show 290 = _; omega) ⟨by decide, by decide⟩ ?_
  refine wk_put1 (k := 25) (j := 0) (f := 1) (ci := 7) eX7_init_16 rfl in_X7 tyX7_ok nmX7 (by decide) mw_378 rfl (Nat.le_of_ble_eq_true rfl) rfl rfl (show (0 : Int) ≤ 0 ∧ (0 : Int) < 1 by omega) (by show 288 < _; omega) ?_
  refine wk_aload_n eX7_init_19 rfl ?_
  refine wk_iconst eX7_init_20 ?_
  refine wk_newi (k := 28) (j := 0) (N' := 4) hA eX7_init_21 (by rw [cu_ne (fun q => absurd q.1 (by decide))]; exact hP 28 0 (by omega) (show (0 : Int) ≤ 0 ∧ (0 : Int) < 1 by omega).2 (by show _ ≤ 291; omega)) rfl rfl (by decide) (show (0 : Int) ≤ 0 ∧ (0 : Int) < 1 by omega) (by show 291 = _; omega) ⟨by decide, by decide⟩ ?_
  refine wk_put1 (k := 25) (j := 0) (f := 2) (ci := 7) eX7_init_23 rfl in_X7 tyX7_ok nmX7 (by decide) mw_380 rfl (Nat.le_of_ble_eq_true rfl) rfl rfl (show (0 : Int) ≤ 0 ∧ (0 : Int) < 1 by omega) (by show 288 < _; omega) ?_
  refine wk_aload_n eX7_init_26 rfl ?_
  refine wk_lconst0 eX7_init_27 ?_
  refine wk_put1 (k := 25) (j := 0) (f := 3) (ci := 7) eX7_init_28 rfl in_X7 tyX7_ok nmX7 (by decide) mw_382 rfl (Nat.le_of_ble_eq_true rfl) rfl rfl (show (0 : Int) ≤ 0 ∧ (0 : Int) < 1 by omega) (by show 288 < _; omega) ?_
  refine wk_aload_n eX7_init_31 rfl ?_
  refine wk_iconst eX7_init_32 ?_
  refine wk_put1 (k := 25) (j := 0) (f := 4) (ci := 7) eX7_init_33 rfl in_X7 tyX7_ok nmX7 (by decide) mw_384 rfl (Nat.le_of_ble_eq_true rfl) rfl rfl (show (0 : Int) ≤ 0 ∧ (0 : Int) < 1 by omega) (by show 288 < _; omega) ?_
  refine wk_aload_n eX7_init_36 rfl ?_
  refine wk_iconst eX7_init_37 ?_
  refine wk_newi (k := 29) (j := 0) (N' := 4) hA eX7_init_38 (by rw [cu_ne (fun q => absurd q.1 (by decide))]; exact hP 29 0 (by omega) (show (0 : Int) ≤ 0 ∧ (0 : Int) < 1 by omega).2 (by show _ ≤ 292; omega)) rfl rfl (by decide) (show (0 : Int) ≤ 0 ∧ (0 : Int) < 1 by omega) (by show 292 = _; omega) ⟨by decide, by decide⟩ ?_
  refine wk_put1 (k := 25) (j := 0) (f := 5) (ci := 7) eX7_init_40 rfl in_X7 tyX7_ok nmX7 (by decide) mw_385 rfl (Nat.le_of_ble_eq_true rfl) rfl rfl (show (0 : Int) ≤ 0 ∧ (0 : Int) < 1 by omega) (by show 288 < _; omega) ?_
  exact wk_return eX7_init_43 (fun H h => bz_H_n h (by omega))
theorem zi_X4 {G : bc_G} {C : bz_C} {j : Int} (hA : bz_ad G) (h_j : 0 ≤ j ∧ j < 2) (hP : PL G C (zP j + 1)) : bz_Call G yX4_init cX4_init 1 1 22 148 [vR G 17 j] (bz_H G (zP j + 1) (cu C 17 j (.inr (4, [vI 0, vI 0, vI 0, vI 0, .null, .null, .null, vI 0, vI 0, .null, .null, .null])))) (bz_H G (zP j + 23) (cu C 17 j (bz_C0 G 17 j))) := by
  refine bz_enter (L := [some (vR G 17 j)]) (by decide) rfl rfl rfl ?_
  refine wk_aload_n eX4_init_0 rfl ?_
  refine wk_objInit eX4_init_1 mw_322 mw_134 mw_135 ⟨by decide, by decide⟩ ?_
  refine wk_aload_n eX4_init_4 rfl ?_
  refine wk_iconst eX4_init_5 ?_
  refine wk_put1 (k := 17) (j := j) (f := 0) (ci := 4) eX4_init_6 rfl in_X4 tyX4_ok nmX4 (by decide) mw_325 rfl (Nat.le_of_ble_eq_true rfl) rfl rfl (show (0 : Int) ≤ j ∧ (j : Int) < 2 by omega) (by show zP j < _; omega) ?_
  refine wk_aload_n eX4_init_9 rfl ?_
  refine wk_iconst eX4_init_10 ?_
  refine wk_put1 (k := 17) (j := j) (f := 1) (ci := 4) eX4_init_11 rfl in_X4 tyX4_ok nmX4 (by decide) mw_328 rfl (Nat.le_of_ble_eq_true rfl) rfl rfl (show (0 : Int) ≤ j ∧ (j : Int) < 2 by omega) (by show zP j < _; omega) ?_
  refine wk_aload_n eX4_init_14 rfl ?_
  refine wk_iconst eX4_init_15 ?_
  refine wk_put1 (k := 17) (j := j) (f := 2) (ci := 4) eX4_init_16 rfl in_X4 tyX4_ok nmX4 (by decide) mw_330 rfl (Nat.le_of_ble_eq_true rfl) rfl rfl (show (0 : Int) ≤ j ∧ (j : Int) < 2 by omega) (by show zP j < _; omega) ?_
  refine wk_aload_n eX4_init_19 rfl ?_
  refine wk_iconst eX4_init_20 ?_
  refine wk_put1 (k := 17) (j := j) (f := 3) (ci := 4) eX4_init_21 rfl in_X4 tyX4_ok nmX4 (by decide) mw_331 rfl (Nat.le_of_ble_eq_true rfl) rfl rfl (show (0 : Int) ≤ j ∧ (j : Int) < 2 by omega) (by show zP j < _; omega) ?_
  refine wk_aload_n eX4_init_24 rfl ?_
  refine wk_bipush eX4_init_25 ?_
  refine wk_newi (k := 18) (j := j) (N' := 8) hA eX4_init_27 (by rw [cu_ne (fun q => absurd q.1 (by decide))]; exact hP 18 j (by omega) (show (0 : Int) ≤ j ∧ (j : Int) < 2 by omega).2 (by show _ ≤ zP j + 1; omega)) rfl rfl (by decide) (show (0 : Int) ≤ j ∧ (j : Int) < 2 by omega) (by show zP j + 1 = _; omega) ⟨by decide, by decide⟩ ?_
  refine wk_put1 (k := 17) (j := j) (f := 4) (ci := 4) eX4_init_29 rfl in_X4 tyX4_ok nmX4 (by decide) mw_332 rfl (Nat.le_of_ble_eq_true rfl) rfl rfl (show (0 : Int) ≤ j ∧ (j : Int) < 2 by omega) (by show zP j < _; omega) ?_
  refine wk_aload_n eX4_init_32 rfl ?_
  refine wk_bipush eX4_init_33 ?_
  refine wk_newi (k := 19) (j := j) (N' := 16) hA eX4_init_35 (by rw [cu_ne (fun q => absurd q.1 (by decide))]; exact hP 19 j (by omega) (show (0 : Int) ≤ j ∧ (j : Int) < 2 by omega).2 (by show _ ≤ zP j + 2; omega)) rfl rfl (by decide) (show (0 : Int) ≤ j ∧ (j : Int) < 2 by omega) (by show zP j + 2 = _; omega) ⟨by decide, by decide⟩ ?_
  refine wk_put1 (k := 17) (j := j) (f := 5) (ci := 4) eX4_init_37 rfl in_X4 tyX4_ok nmX4 (by decide) mw_333 rfl (Nat.le_of_ble_eq_true rfl) rfl rfl (show (0 : Int) ≤ j ∧ (j : Int) < 2 by omega) (by show zP j < _; omega) ?_
  refine wk_aload_n eX4_init_40 rfl ?_
  refine wk_bipush eX4_init_41 ?_
  refine wk_bipush eX4_init_43 ?_
  refine wk_multi hA eX4_init_45 mw_323 (by rw [cu_ne (fun q => absurd q.1 (by decide))]; exact hP 20 j (by omega) (show (0 : Int) ≤ j ∧ (j : Int) < 2 by omega).2 (by show _ ≤ zP j + 3; omega)) (fun q a b => by rw [cu_ne (fun q => absurd q.1 (by decide))]; exact hP 21 (16 * j + q) (by omega) (show (16 * j + q : Int) < 32 by omega) (by show _ ≤ zP ((16 * j + q) / 16) + 4 + (16 * j + q) % 16; rw [show (16 * j + q) / 16 = j by omega]; omega)) (by omega) (by omega) ⟨by decide, by decide⟩ ?_
  refine wk_put1 (k := 17) (j := j) (f := 6) (ci := 4) eX4_init_49 rfl in_X4 tyX4_ok nmX4 (by decide) mw_335 rfl (Nat.le_of_ble_eq_true rfl) rfl rfl (show (0 : Int) ≤ j ∧ (j : Int) < 2 by omega) (by show zP j < _; omega) ?_
  refine wk_aload_n eX4_init_52 rfl ?_
  refine wk_iconst eX4_init_53 ?_
  refine wk_put1 (k := 17) (j := j) (f := 7) (ci := 4) eX4_init_54 rfl in_X4 tyX4_ok nmX4 (by decide) mw_336 rfl (Nat.le_of_ble_eq_true rfl) rfl rfl (show (0 : Int) ≤ j ∧ (j : Int) < 2 by omega) (by show zP j < _; omega) ?_
  refine wk_aload_n eX4_init_57 rfl ?_
  refine wk_iconst eX4_init_58 ?_
  refine wk_put1 (k := 17) (j := j) (f := 8) (ci := 4) eX4_init_59 rfl in_X4 tyX4_ok nmX4 (by decide) mw_337 rfl (Nat.le_of_ble_eq_true rfl) rfl rfl (show (0 : Int) ≤ j ∧ (j : Int) < 2 by omega) (by show zP j < _; omega) ?_
  refine wk_aload_n eX4_init_62 rfl ?_
  refine wk_iconst eX4_init_63 ?_
  refine wk_newi (k := 22) (j := j) (N' := 4) hA eX4_init_64 (by rw [cu_ne (fun q => absurd q.1 (by decide))]; exact hP 22 j (by omega) (show (0 : Int) ≤ j ∧ (j : Int) < 2 by omega).2 (by show _ ≤ zP j + 20; omega)) rfl rfl (by decide) (show (0 : Int) ≤ j ∧ (j : Int) < 2 by omega) (by show zP j + 20 = _; omega) ⟨by decide, by decide⟩ ?_
  refine wk_put1 (k := 17) (j := j) (f := 9) (ci := 4) eX4_init_66 rfl in_X4 tyX4_ok nmX4 (by decide) mw_338 rfl (Nat.le_of_ble_eq_true rfl) rfl rfl (show (0 : Int) ≤ j ∧ (j : Int) < 2 by omega) (by show zP j < _; omega) ?_
  refine wk_aload_n eX4_init_69 rfl ?_
  refine wk_iconst eX4_init_70 ?_
  refine wk_newi (k := 23) (j := j) (N' := 4) hA eX4_init_71 (by rw [cu_ne (fun q => absurd q.1 (by decide))]; exact hP 23 j (by omega) (show (0 : Int) ≤ j ∧ (j : Int) < 2 by omega).2 (by show _ ≤ zP j + 21; omega)) rfl rfl (by decide) (show (0 : Int) ≤ j ∧ (j : Int) < 2 by omega) (by show zP j + 21 = _; omega) ⟨by decide, by decide⟩ ?_
  refine wk_put1 (k := 17) (j := j) (f := 10) (ci := 4) eX4_init_73 rfl in_X4 tyX4_ok nmX4 (by decide) mw_339 rfl (Nat.le_of_ble_eq_true rfl) rfl rfl (show (0 : Int) ≤ j ∧ (j : Int) < 2 by omega) (by show zP j < _; omega) ?_
  refine wk_aload_n eX4_init_76 rfl ?_
  refine wk_iconst eX4_init_77 ?_
  refine wk_newi (k := 24) (j := j) (N' := 4) hA eX4_init_78 (by rw [cu_ne (fun q => absurd q.1 (by decide))]; exact hP 24 j (by omega) (show (0 : Int) ≤ j ∧ (j : Int) < 2 by omega).2 (by show _ ≤ zP j + 22; omega)) rfl rfl (by decide) (show (0 : Int) ≤ j ∧ (j : Int) < 2 by omega) (by show zP j + 22 = _; omega) ⟨by decide, by decide⟩ ?_
  refine wk_put1 (k := 17) (j := j) (f := 11) (ci := 4) eX4_init_80 rfl in_X4 tyX4_ok nmX4 (by decide) mw_340 rfl (Nat.le_of_ble_eq_true rfl) rfl rfl (show (0 : Int) ≤ j ∧ (j : Int) < 2 by omega) (by show zP j < _; omega) ?_
  exact wk_return eX4_init_83 (fun H h => bz_H_n h (by omega))
theorem zi_X3 {G : bc_G} {C : bz_C} (hA : bz_ad G) (hP : PL G C (293 + 1)) : bz_Call G yX3_init cX3_init 1 2 5 53 [vR G 30 0] (bz_H G (293 + 1) (cu C 30 0 (.inr (3, [vI 0, .null, vI 0, .null, .null])))) (bz_H G (293 + 6) (cu C 30 0 (bz_C0 G 30 0))) := by
  have z0 : zS 0 = 4 := rfl
  have z1 : zS 1 = 23 := rfl
  have z2 : zT 12 = 257 := rfl
  have z3 : zP 0 = 234 := rfl
  have z4 : zP 1 = 262 := rfl
  have z5 : zC 48 = 285 := rfl
  have z6 : zC 49 = 296 := rfl
  refine bz_enter (L := [some (vR G 30 0)]) (by decide) rfl rfl rfl ?_
  refine wk_aload_n eX3_init_0 rfl ?_
  refine wk_objInit eX3_init_1 mw_404 mw_134 mw_135 ⟨by decide, by decide⟩ ?_
  refine wk_aload_n eX3_init_4 rfl ?_
  refine wk_iconst eX3_init_5 ?_
  refine wk_put1 (k := 30) (j := 0) (f := 0) (ci := 3) eX3_init_6 rfl in_X3 tyX3_ok nmX3 (by decide) mw_407 rfl (Nat.le_of_ble_eq_true rfl) rfl rfl (show (0 : Int) ≤ 0 ∧ (0 : Int) < 1 by omega) (by show 293 < _; omega) ?_
  refine wk_aload_n eX3_init_9 rfl ?_
  refine wk_iconst eX3_init_10 ?_
  refine wk_newi (k := 31) (j := 0) (N' := 5) hA eX3_init_11 (by rw [cu_ne (fun q => absurd q.1 (by decide))]; exact hP 31 0 (by omega) (show (0 : Int) ≤ 0 ∧ (0 : Int) < 1 by omega).2 (by show _ ≤ 294; omega)) rfl rfl (by decide) (show (0 : Int) ≤ 0 ∧ (0 : Int) < 1 by omega) (by show 294 = _; omega) ⟨by decide, by decide⟩ ?_
  refine wk_put1 (k := 30) (j := 0) (f := 1) (ci := 3) eX3_init_13 rfl in_X3 tyX3_ok nmX3 (by decide) mw_409 rfl (Nat.le_of_ble_eq_true rfl) rfl rfl (show (0 : Int) ≤ 0 ∧ (0 : Int) < 1 by omega) (by show 293 < _; omega) ?_
  refine wk_aload_n eX3_init_16 rfl ?_
  refine wk_iconst eX3_init_17 ?_
  refine wk_put1 (k := 30) (j := 0) (f := 2) (ci := 3) eX3_init_18 rfl in_X3 tyX3_ok nmX3 (by decide) mw_411 rfl (Nat.le_of_ble_eq_true rfl) rfl rfl (show (0 : Int) ≤ 0 ∧ (0 : Int) < 1 by omega) (by show 293 < _; omega) ?_
  refine wk_aload_n eX3_init_21 rfl ?_
  refine wk_iconst eX3_init_22 ?_
  refine wk_newi (k := 32) (j := 0) (N' := 5) hA eX3_init_23 (by rw [cu_ne (fun q => absurd q.1 (by decide))]; exact hP 32 0 (by omega) (show (0 : Int) ≤ 0 ∧ (0 : Int) < 1 by omega).2 (by show _ ≤ 295; omega)) rfl rfl (by decide) (show (0 : Int) ≤ 0 ∧ (0 : Int) < 1 by omega) (by show 295 = _; omega) ⟨by decide, by decide⟩ ?_
  refine wk_put1 (k := 30) (j := 0) (f := 3) (ci := 3) eX3_init_25 rfl in_X3 tyX3_ok nmX3 (by decide) mw_412 rfl (Nat.le_of_ble_eq_true rfl) rfl rfl (show (0 : Int) ≤ 0 ∧ (0 : Int) < 1 by omega) (by show 293 < _; omega) ?_
  refine wk_aload_n eX3_init_28 rfl ?_
  refine wk_new (k := 12) (j := 49) (ci := 0) (fs := [vI 0, vI 0, vI 0, vI 0, vI 0, vI 0, vI 0, vI 0, vI 0, .null, .null]) hA eX3_init_29 in_X0 tyX0 tyX0_ok mw_405 mw_235 mw_109 rfl (by decide +kernel) (show (0 : Int) ≤ 49 ∧ (49 : Int) < 50 by omega) (by show zC 49 = _; omega) ⟨by decide, by decide⟩ ?_
  refine wk_dup eX3_init_32 ?_
  refine wk_initN (host := "BroadcastCarousel") (k := 12) (j := 49) (fun _ _ _ _ _ _ h => wk_T h) wk_O eX3_init_33 (by decide +kernel) mw_237 mw_109 mw_238 ⟨by decide, by decide, by decide +kernel⟩ rfl (by decide) ⟨by decide, by decide⟩ ⟨by decide, by decide⟩ rfl (bz_pre (by show zC 49 + 1 = _; omega) (zi_X0 hA (by omega) (hP.cu (by show _ ≤ zC 49 + 1; omega) (by show 293 < zC 49 + 1; omega)))) ?_
  refine wk_self (k := 12) (j := 49) (by rw [cu_ne (fun q => absurd q.1 (by decide))]; exact hP 12 49 (by omega) (show (0 : Int) ≤ 49 ∧ (49 : Int) < 50 by omega).2 (by show _ ≤ zC 49; omega)) ?_
  refine wk_put1 (k := 30) (j := 0) (f := 4) (ci := 3) eX3_init_36 rfl in_X3 tyX3_ok nmX3 (by decide) mw_413 rfl (Nat.le_of_ble_eq_true rfl) rfl rfl (show (0 : Int) ≤ 0 ∧ (0 : Int) < 1 by omega) (by show 293 < _; omega) ?_
  exact wk_return eX3_init_39 (fun H h => bz_H_n h (by omega))
theorem lz_X6 {G : bc_G} {C : bz_C} {s : Int} (hA : bz_ad G) (h_s : 0 ≤ s ∧ s < 12) (hP : PL G C (zS s + 1)) : ∀ (k c : Nat), c + k = 4 → bk_W G RX6 cX6_init 2 none (bz_rm 2 18 236) (bz_T G) (bz_E G 18 236 (bz_H G (zS s + 19) (cu C 5 s (bz_C0 G 5 s)))) (6 + 3 * c) (64 + 43 * c) 30 [some (vR G 5 s), some (vI (c : Int))] [] (bz_H G (zS s + 7 + 3 * (c : Int)) (cu (cu C 5 s (.inr (6, [vR G 6 s, vI 0, vR G 11 s]))) 11 s (.inl (bc_ty G 5, 4, .inr (.inr (.inr (.inr (fun q => if (q : Int) < (c : Int) then some (G.2.2.2.1 12 (4 * s + (q : Int))) else none)))))))) := by
  have hzT := zT_st h_s
  intro k
  induction k with
  | zero =>
    intro c hc
    have hc4 : c = 4 := by omega
    subst hc4
    refine wk_iload_n eX6_init_30 rfl ?_
    refine wk_iconst eX6_init_31 ?_
    refine wk_icmp_ge eX6_init_32 (fun _ => ?_) (fun h => absurd (by omega) h)
    refine wk_return eX6_init_54 (fun H h => ?_)
    have h1 := bz_H_n h (show zS s + 7 + 3 * ((4 : Nat) : Int) = zS s + 19 by omega)
    refine bz_H_arr h1 (show (0 : Int) ≤ s ∧ (s : Int) < 12 by omega) (by show zS s + 6 < _; omega) (fun g => ?_)
    rw [cu_ne (fun q => absurd q.1 (by decide)), hP 11 s (by omega) (show (0 : Int) ≤ s ∧ (s : Int) < 12 by omega).2 (by show _ ≤ zS s + 6; omega)]
    show H[_]? = some (vp_cell _ _)
    rw [show H[G.2.2.2.1 11 s]? = some (vp_cell (bc_ty G 5) (4, .inr (.inr (.inr (.inr (fun q => if (q : Int) < ((4 : Nat) : Int) then some (G.2.2.2.1 12 (4 * s + (q : Int))) else none)))))) from g]
    congr 1
  | succ k ih =>
    intro c hc
    have hzC := zC_st h_s (c := (c : Int)) (by omega)
    refine wk_iload_n eX6_init_30 rfl ?_
    refine wk_iconst eX6_init_31 ?_
    refine wk_icmp_ge eX6_init_32 (fun h => absurd h (by omega)) (fun _ => ?_)
    refine wk_aload_n eX6_init_35 rfl ?_
    refine wk_get (k := 5) (j := s) (f := 2) (ci := 6) (fs := [vR G 6 s, vI 0, vR G 11 s]) eX6_init_36 rfl in_X6 (by decide) mw_288 (by rw [cu_ne (fun q => absurd q.1 (by decide)), cu_at]) rfl (show (0 : Int) ≤ s ∧ (s : Int) < 12 by omega) (by show zS s < _; omega) ?_
    refine wk_iload_n eX6_init_39 rfl ?_
    refine wk_new (k := 12) (j := 4 * s + (c : Int)) (ci := 0) (fs := [vI 0, vI 0, vI 0, vI 0, vI 0, vI 0, vI 0, vI 0, vI 0, .null, .null]) hA eX6_init_40 in_X0 tyX0 tyX0_ok mw_233 mw_235 mw_109 rfl (by decide +kernel) (show (0 : Int) ≤ 4 * s + (c : Int) ∧ (4 * s + (c : Int) : Int) < 50 by omega) (by show zC (4 * s + (c : Int)) = _; omega) ⟨show 6 + 3 * c + 1 ≤ 18 by omega, show 64 + 43 * c + 11 ≤ 236 by omega⟩ ?_
    refine wk_dup eX6_init_43 ?_
    refine wk_initN (host := "BroadcastCarousel") (k := 12) (j := 4 * s + (c : Int)) (fun _ _ _ _ _ _ h => wk_T h) wk_O eX6_init_44 (by decide +kernel) mw_237 mw_109 mw_238 ⟨by decide, by decide, by decide +kernel⟩ rfl (by decide) ⟨by decide, by decide⟩ ⟨show 6 + 3 * c + 1 + 2 ≤ 18 by omega, show 64 + 43 * c + 11 + 32 ≤ 236 by omega⟩ rfl (bz_pre (by show zC (4 * s + (c : Int)) + 1 = _; omega) (zi_X0 hA (by omega) (((hP.le (m := zS s + 1) (by omega)).cu (k := 5) (j := s) (E := (.inr (6, [vR G 6 s, vI 0, vR G 11 s]))) (m := zS s + 1) (by omega) (by show zS s < _; omega)).cu (k := 11) (j := s) (E := (.inl (bc_ty G 5, 4, .inr (.inr (.inr (.inr (fun q => if (q : Int) < (c : Int) then some (G.2.2.2.1 12 (4 * s + (q : Int))) else none))))))) (m := zC (4 * s + (c : Int)) + 1) (by omega) (by show zS s + 6 < _; omega)))) ?_
    refine wk_self (k := 12) (j := 4 * s + (c : Int)) (by rw [cu_ne (fun q => absurd q.1 (by decide)), cu_ne (fun q => absurd q.1 (by decide))]; exact hP 12 (4 * s + (c : Int)) (by omega) (show (0 : Int) ≤ 4 * s + (c : Int) ∧ (4 * s + (c : Int) : Int) < 50 by omega).2 (by show _ ≤ zC (4 * s + (c : Int)); omega)) ?_
    refine wk_aast (k := 11) (k2 := 12) (j := s) (j2 := 4 * s + (c : Int)) (t := 5) (N' := 4) (ci := 0) eX6_init_47 rfl rfl cu_at (by rw [cu_ne (fun q => absurd q.1 (by decide)), cu_ne (fun q => absurd q.1 (by decide))]; exact hP 12 (4 * s + (c : Int)) (by omega) (show (0 : Int) ≤ 4 * s + (c : Int) ∧ (4 * s + (c : Int) : Int) < 50 by omega).2 (by show _ ≤ zC (4 * s + (c : Int)); omega)) (by omega) (by decide) (show (0 : Int) ≤ s ∧ (s : Int) < 12 by omega) (by show zS s + 6 < _; omega) (show (0 : Int) ≤ 4 * s + (c : Int) ∧ (4 * s + (c : Int) : Int) < 50 by omega) (by show zC (4 * s + (c : Int)) < _; omega) ?_
    rw [cu_cu]
    refine wk_iinc eX6_init_48 rfl rfl ?_
    refine wk_goto eX6_init_51 ?_
    have h := ih (c + 1) (by omega)
    have e1 : 6 + 3 * (c + 1) = 6 + 3 * c + 1 + 2 := by omega
    have e2 : 64 + 43 * (c + 1) = 64 + 43 * c + 11 + 32 := by omega
    have e3 : ((c + 1 : Nat) : Int) = (c : Int) + 1 := by omega
    have e4 : zS s + 7 + 3 * ((c : Int) + 1) = zC (4 * s + (c : Int)) + 3 := by omega
    have e5 : (fun q : Nat => if (q : Int) < (c : Int) + 1 then some (G.2.2.2.1 12 (4 * s + (q : Int))) else none) = (fun q : Nat => if q = ((c : Int)).toNat then some (G.2.2.2.1 12 (4 * s + (c : Int))) else if (q : Int) < (c : Int) then some (G.2.2.2.1 12 (4 * s + (q : Int))) else none) := by
      funext q
      by_cases hq : q = ((c : Int)).toNat
      · have : (q : Int) = (c : Int) := by omega
        rw [if_pos (by omega), if_pos hq, this]
      · rw [if_neg hq]
        by_cases h2 : (q : Int) < (c : Int)
        · rw [if_pos h2, if_pos (by omega)]
        · rw [if_neg h2, if_neg (by omega)]
    rw [e1, e2, e3, e4, e5] at h
    exact h
theorem zi_X6 {G : bc_G} {C : bz_C} {s : Int} (hA : bz_ad G) (h_s : 0 ≤ s ∧ s < 12) (hP : PL G C (zS s + 1)) : bz_Call G yX6_init cX6_init 2 2 18 236 [vR G 5 s] (bz_H G (zS s + 1) (cu C 5 s (.inr (6, [.null, vI 0, .null])))) (bz_H G (zS s + 19) (cu C 5 s (bz_C0 G 5 s))) := by
  have hzT := zT_st h_s
  refine bz_enter (L := [some (vR G 5 s), none]) (by decide) rfl rfl rfl ?_
  refine wk_aload_n eX6_init_0 rfl ?_
  refine wk_objInit eX6_init_1 mw_171 mw_134 mw_135 ⟨by decide, by decide⟩ ?_
  refine wk_aload_n eX6_init_4 rfl ?_
  refine wk_new (k := 6) (j := s) (ci := 5) (fs := [vI 0, vI 0, vI 0, vI 0, .null, .null, .null, .null]) hA eX6_init_5 in_X5 tyX5 tyX5_ok mw_172 mw_173 mw_108 rfl (by decide +kernel) (show (0 : Int) ≤ s ∧ (s : Int) < 13 by omega) (by show zT s = _; omega) ⟨by decide, by decide⟩ ?_
  refine wk_dup eX6_init_8 ?_
  refine wk_initN (host := "BroadcastCarousel") (k := 6) (j := s) (fun _ _ _ _ _ _ h => wk_T h) wk_O eX6_init_9 (by decide +kernel) mw_175 mw_108 mw_176 ⟨by decide, by decide, by decide +kernel⟩ rfl (by decide) ⟨by decide, by decide⟩ ⟨by decide, by decide⟩ rfl (bz_pre (by show zT s + 1 = _; omega) (zi_X5 hA (by omega) (hP.cu (by show _ ≤ zT s + 1; omega) (by show zS s < zT s + 1; omega)))) ?_
  refine wk_self (k := 6) (j := s) (by rw [cu_ne (fun q => absurd q.1 (by decide))]; exact hP 6 s (by omega) (show (0 : Int) ≤ s ∧ (s : Int) < 13 by omega).2 (by show _ ≤ zT s; omega)) ?_
  refine wk_put1 (k := 5) (j := s) (f := 0) (ci := 6) eX6_init_12 rfl in_X6 tyX6_ok nmX6 (by decide) mw_283 rfl (Nat.le_of_ble_eq_true rfl) rfl rfl (show (0 : Int) ≤ s ∧ (s : Int) < 12 by omega) (by show zS s < _; omega) ?_
  refine wk_aload_n eX6_init_15 rfl ?_
  refine wk_iconst eX6_init_16 ?_
  refine wk_put1 (k := 5) (j := s) (f := 1) (ci := 6) eX6_init_17 rfl in_X6 tyX6_ok nmX6 (by decide) mw_286 rfl (Nat.le_of_ble_eq_true rfl) rfl rfl (show (0 : Int) ≤ s ∧ (s : Int) < 12 by omega) (by show zS s < _; omega) ?_
  refine wk_aload_n eX6_init_20 rfl ?_
  refine wk_iconst eX6_init_21 ?_
  refine wk_anew (k := 11) (j := s) (t := 5) (N' := 4) hA eX6_init_22 mw_233 (fun s h => h.2.1) rfl rfl (by decide) (show (0 : Int) ≤ s ∧ (s : Int) < 12 by omega) (by show zS s + 6 = _; omega) ⟨by decide, by decide⟩ ?_
  refine wk_put2 (k := 5) (j := s) (f := 2) (ci := 6) eX6_init_25 rfl in_X6 tyX6_ok nmX6 (by decide) mw_288 rfl (by decide) (Nat.le_of_ble_eq_true rfl) rfl rfl (show (0 : Int) ≤ s ∧ (s : Int) < 12 by omega) (by show zS s < _; omega) ?_
  refine wk_iconst eX6_init_28 ?_
  refine wk_istore_n eX6_init_29 rfl ?_
  have h := lz_X6 hA h_s hP 4 0 (by omega)
  refine wk_weak (fun H h0 => ?_) h
  exact bz_H_n h0 (by omega)
theorem lz_X1 {G : bc_G} {C : bz_C} (hA : bz_ad G) (hP : PL G C (42 + 1)) : ∀ (k c : Nat), c + k = 10 → bk_W G RX1 cX1_init 2 none (bz_rm 3 191 2400) (bz_T G) (bz_E G 191 2400 (bz_H G (42 + 192) (cu C 15 0 (bz_C0 G 15 0)))) (1 + 19 * c) (10 + 239 * c) 25 [some (vR G 15 0), some (vI (c : Int))] [] (bz_H G (44 + 19 * (c : Int)) (cu (cu C 15 0 (.inr (1, [vI 0, vI 0, vR G 16 0]))) 16 0 (.inl (bc_ty G 4, 10, .inr (.inr (.inr (.inr (fun q => if (q : Int) < (c : Int) then some (G.2.2.2.1 5 (2 + (q : Int))) else none)))))))) := by
  intro k
  induction k with
  | zero =>
    intro c hc
    have hc4 : c = 10 := by omega
    subst hc4
    refine wk_iload_n eX1_init_25 rfl ?_
    refine wk_bipush eX1_init_26 ?_
    refine wk_icmp_ge eX1_init_28 (fun _ => ?_) (fun h => absurd (by omega) h)
    refine wk_return eX1_init_50 (fun H h => ?_)
    have h1 := bz_H_n h (show (44 : Int) + 19 * ((10 : Nat) : Int) = 42 + 192 by omega)
    refine bz_H_arr h1 (show (0 : Int) ≤ 0 ∧ (0 : Int) < 1 by omega) (by show (43 : Int) < _; omega) (fun g => ?_)
    rw [cu_ne (fun q => absurd q.1 (by decide)), hP 16 0 (by omega) (show (0 : Int) ≤ 0 ∧ (0 : Int) < 1 by omega).2 (by show _ ≤ (43 : Int); omega)]
    show H[_]? = some (vp_cell _ _)
    rw [show H[G.2.2.2.1 16 0]? = some (vp_cell (bc_ty G 4) (10, .inr (.inr (.inr (.inr (fun q => if (q : Int) < ((10 : Nat) : Int) then some (G.2.2.2.1 5 (2 + (q : Int))) else none)))))) from g]
    congr 1
  | succ k ih =>
    intro c hc
    have hzR := zS_ring (r := (c : Int)) (by omega)
    refine wk_iload_n eX1_init_25 rfl ?_
    refine wk_bipush eX1_init_26 ?_
    refine wk_icmp_ge eX1_init_28 (fun h => absurd h (by omega)) (fun _ => ?_)
    refine wk_aload_n eX1_init_31 rfl ?_
    refine wk_get (k := 15) (j := 0) (f := 2) (ci := 1) (fs := [vI 0, vI 0, vR G 16 0]) eX1_init_32 rfl in_X1 (by decide) mw_309 (by rw [cu_ne (fun q => absurd q.1 (by decide)), cu_at]) rfl (show (0 : Int) ≤ 0 ∧ (0 : Int) < 1 by omega) (by show (42 : Int) < _; omega) ?_
    refine wk_iload_n eX1_init_35 rfl ?_
    refine wk_new (k := 5) (j := 2 + (c : Int)) (ci := 6) (fs := [.null, vI 0, .null]) hA eX1_init_36 in_X6 tyX6 tyX6_ok mw_303 mw_167 mw_107 rfl (by decide +kernel) (show (0 : Int) ≤ 2 + (c : Int) ∧ (2 + (c : Int) : Int) < 12 by omega) (by show zS (2 + (c : Int)) = _; omega) ⟨show 1 + 19 * c + 1 ≤ 191 by omega, show 10 + 239 * c + 3 ≤ 2400 by omega⟩ ?_
    refine wk_dup eX1_init_39 ?_
    refine wk_init (k := 5) (j := 2 + (c : Int)) (fun _ _ _ _ _ _ h => wk_T h) wk_O eX1_init_40 mw_305 mw_169 mw_107 mw_170 ⟨by decide, by decide, by decide +kernel⟩ rfl (by decide) ⟨by decide, by decide⟩ ⟨show 1 + 19 * c + 1 + 18 ≤ 191 by omega, show 10 + 239 * c + 3 + 236 ≤ 2400 by omega⟩ rfl (bz_pre (by show zS (2 + (c : Int)) + 1 = _; omega) (zi_X6 hA (by omega) (((hP.le (m := 43) (by omega)).cu (k := 15) (j := 0) (E := (.inr (1, [vI 0, vI 0, vR G 16 0]))) (m := 43) (by omega) (by show (42 : Int) < _; omega)).cu (k := 16) (j := 0) (E := (.inl (bc_ty G 4, 10, .inr (.inr (.inr (.inr (fun q => if (q : Int) < (c : Int) then some (G.2.2.2.1 5 (2 + (q : Int))) else none))))))) (m := zS (2 + (c : Int)) + 1) (by omega) (by show (43 : Int) < _; omega)))) ?_
    refine wk_self (k := 5) (j := 2 + (c : Int)) (by rw [cu_ne (fun q => absurd q.1 (by decide)), cu_ne (fun q => absurd q.1 (by decide))]; exact hP 5 (2 + (c : Int)) (by omega) (show (0 : Int) ≤ 2 + (c : Int) ∧ (2 + (c : Int) : Int) < 12 by omega).2 (by show _ ≤ zS (2 + (c : Int)); omega)) ?_
    refine wk_aast (k := 16) (k2 := 5) (j := 0) (j2 := 2 + (c : Int)) (t := 4) (N' := 10) (ci := 6) eX1_init_43 rfl rfl cu_at (by rw [cu_ne (fun q => absurd q.1 (by decide)), cu_ne (fun q => absurd q.1 (by decide))]; exact hP 5 (2 + (c : Int)) (by omega) (show (0 : Int) ≤ 2 + (c : Int) ∧ (2 + (c : Int) : Int) < 12 by omega).2 (by show _ ≤ zS (2 + (c : Int)); omega)) (by omega) (by decide) (show (0 : Int) ≤ 0 ∧ (0 : Int) < 1 by omega) (by show (43 : Int) < _; omega) (show (0 : Int) ≤ 2 + (c : Int) ∧ (2 + (c : Int) : Int) < 12 by omega) (by show zS (2 + (c : Int)) < _; omega) ?_
    rw [cu_cu]
    refine wk_iinc eX1_init_44 rfl rfl ?_
    refine wk_goto eX1_init_47 ?_
    have h := ih (c + 1) (by omega)
    have e1 : 1 + 19 * (c + 1) = 1 + 19 * c + 1 + 18 := by omega
    have e2 : 10 + 239 * (c + 1) = 10 + 239 * c + 3 + 236 := by omega
    have e3 : ((c + 1 : Nat) : Int) = (c : Int) + 1 := by omega
    have e4 : 44 + 19 * ((c : Int) + 1) = zS (2 + (c : Int)) + 19 := by omega
    have e5 : (fun q : Nat => if (q : Int) < (c : Int) + 1 then some (G.2.2.2.1 5 (2 + (q : Int))) else none) = (fun q : Nat => if q = ((c : Int)).toNat then some (G.2.2.2.1 5 (2 + (c : Int))) else if (q : Int) < (c : Int) then some (G.2.2.2.1 5 (2 + (q : Int))) else none) := by
      funext q
      by_cases hq : q = ((c : Int)).toNat
      · have : (q : Int) = (c : Int) := by omega
        rw [if_pos (by omega), if_pos hq, this]
      · rw [if_neg hq]
        by_cases h2 : (q : Int) < (c : Int)
        · rw [if_pos h2, if_pos (by omega)]
        · rw [if_neg h2, if_neg (by omega)]
    rw [e1, e2, e3, e4, e5] at h
    exact h
theorem zi_X1 {G : bc_G} {C : bz_C} (hA : bz_ad G) (hP : PL G C (42 + 1)) : bz_Call G yX1_init cX1_init 2 3 191 2400 [vR G 15 0] (bz_H G (42 + 1) (cu C 15 0 (.inr (1, [vI 0, vI 0, .null])))) (bz_H G (42 + 192) (cu C 15 0 (bz_C0 G 15 0))) := by
  refine bz_enter (L := [some (vR G 15 0), none]) (by decide) rfl rfl rfl ?_
  refine wk_aload_n eX1_init_0 rfl ?_
  refine wk_objInit eX1_init_1 mw_302 mw_134 mw_135 ⟨by decide, by decide⟩ ?_
  refine wk_aload_n eX1_init_4 rfl ?_
  refine wk_iconst eX1_init_5 ?_
  refine wk_put1 (k := 15) (j := 0) (f := 0) (ci := 1) eX1_init_6 rfl in_X1 tyX1_ok nmX1 (by decide) mw_306 rfl (Nat.le_of_ble_eq_true rfl) rfl rfl (show (0 : Int) ≤ 0 ∧ (0 : Int) < 1 by omega) (by show 42 < _; omega) ?_
  refine wk_aload_n eX1_init_9 rfl ?_
  refine wk_iconst eX1_init_10 ?_
  refine wk_put1 (k := 15) (j := 0) (f := 1) (ci := 1) eX1_init_11 rfl in_X1 tyX1_ok nmX1 (by decide) mw_308 rfl (Nat.le_of_ble_eq_true rfl) rfl rfl (show (0 : Int) ≤ 0 ∧ (0 : Int) < 1 by omega) (by show 42 < _; omega) ?_
  refine wk_aload_n eX1_init_14 rfl ?_
  refine wk_bipush eX1_init_15 ?_
  refine wk_anew (k := 16) (j := 0) (t := 4) (N' := 10) hA eX1_init_17 mw_303 (fun s h => h.2.2.1) rfl rfl (by decide) (show (0 : Int) ≤ 0 ∧ (0 : Int) < 1 by omega) (by show 43 = _; omega) ⟨by decide, by decide⟩ ?_
  refine wk_put2 (k := 15) (j := 0) (f := 2) (ci := 1) eX1_init_20 rfl in_X1 tyX1_ok nmX1 (by decide) mw_309 rfl (by decide) (Nat.le_of_ble_eq_true rfl) rfl rfl (show (0 : Int) ≤ 0 ∧ (0 : Int) < 1 by omega) (by show 42 < _; omega) ?_
  refine wk_iconst eX1_init_23 ?_
  refine wk_istore_n eX1_init_24 rfl ?_
  have h := lz_X1 hA hP 10 0 (by omega)
  refine wk_weak (fun H h0 => ?_) h
  exact bz_H_n h0 (by omega)
set_option maxHeartbeats 4000000 in
theorem zi_X8 {G : bc_G} {C : bz_C} (hA : bz_ad G) (hP : PL G C (0 + 1)) : bz_Call G yX8_init cX8_init 1 4 298 3903 [vR G 1 0] (bz_H G (0 + 1) (cu C 1 0 (.inr (8, [.null, vI 0, vI 0, vI 0, .null, .null, .null, .null, .null, .null, .null, .null, .null, .null])))) (bz_H G (0 + 299) (cu C 1 0 (bz_C0 G 1 0))) := by
  have z0 : zS 0 = 4 := rfl
  have z1 : zS 1 = 23 := rfl
  have z2 : zT 12 = 257 := rfl
  have z3 : zP 0 = 234 := rfl
  have z4 : zP 1 = 262 := rfl
  have z5 : zC 48 = 285 := rfl
  have z6 : zC 49 = 296 := rfl
  refine bz_enter (L := [some (vR G 1 0)]) (by decide) rfl rfl rfl ?_
  refine wk_aload_n eX8_init_0 rfl ?_
  refine wk_objInit eX8_init_1 mw_133 mw_134 mw_135 ⟨by decide, by decide⟩ ?_
  refine wk_aload_n eX8_init_4 rfl ?_
  refine wk_sipush eX8_init_5 ?_
  refine wk_newa (k := 2) (j := 0) (t := 1) (N' := 500) (ty := .byte) (a1 := .inl (fun _ => (0 : Int32))) hA eX8_init_8 mw_165 rfl rfl (fun _ _ h => h) (by rw [cu_ne (fun q => absurd q.1 (by decide))]; exact hP 2 0 (by omega) (show (0 : Int) ≤ 0 ∧ (0 : Int) < 1 by omega).2 (by show _ ≤ 1; omega)) (fun _ => rfl) rfl (by decide) (by decide) (show (0 : Int) ≤ 0 ∧ (0 : Int) < 1 by omega) (by show 1 = _; omega) ⟨by decide, by decide⟩ ?_
  refine wk_put1 (k := 1) (j := 0) (f := 0) (ci := 8) eX8_init_10 rfl in_X8 tyX8_ok nmX8 (by decide) mw_425 rfl (Nat.le_of_ble_eq_true rfl) rfl rfl (show (0 : Int) ≤ 0 ∧ (0 : Int) < 1 by omega) (by show 0 < _; omega) ?_
  refine wk_aload_n eX8_init_13 rfl ?_
  refine wk_iconst eX8_init_14 ?_
  refine wk_put1 (k := 1) (j := 0) (f := 1) (ci := 8) eX8_init_15 rfl in_X8 tyX8_ok nmX8 (by decide) mw_426 rfl (Nat.le_of_ble_eq_true rfl) rfl rfl (show (0 : Int) ≤ 0 ∧ (0 : Int) < 1 by omega) (by show 0 < _; omega) ?_
  refine wk_aload_n eX8_init_18 rfl ?_
  refine wk_iconst eX8_init_19 ?_
  refine wk_put1 (k := 1) (j := 0) (f := 2) (ci := 8) eX8_init_20 rfl in_X8 tyX8_ok nmX8 (by decide) mw_427 rfl (Nat.le_of_ble_eq_true rfl) rfl rfl (show (0 : Int) ≤ 0 ∧ (0 : Int) < 1 by omega) (by show 0 < _; omega) ?_
  refine wk_aload_n eX8_init_23 rfl ?_
  refine wk_iconst eX8_init_24 ?_
  refine wk_put1 (k := 1) (j := 0) (f := 3) (ci := 8) eX8_init_25 rfl in_X8 tyX8_ok nmX8 (by decide) mw_428 rfl (Nat.le_of_ble_eq_true rfl) rfl rfl (show (0 : Int) ≤ 0 ∧ (0 : Int) < 1 by omega) (by show 0 < _; omega) ?_
  refine wk_aload_n eX8_init_28 rfl ?_
  refine wk_new (k := 3) (j := 0) (ci := 2) (fs := [.null, vI 0, vI 0, vI 0, vI 0, vI 0, vI 0]) hA eX8_init_29 in_X2 tyX2 tyX2_ok mw_136 mw_137 mw_106 rfl (by decide +kernel) (show (0 : Int) ≤ 0 ∧ (0 : Int) < 1 by omega) (by show 2 = _; omega) ⟨by decide, by decide⟩ ?_
  refine wk_dup eX8_init_32 ?_
  refine wk_initN (host := "BroadcastCarousel") (k := 3) (j := 0) (fun _ _ _ _ _ _ h => wk_T h) wk_O eX8_init_33 (by decide +kernel) mw_139 mw_106 mw_140 ⟨by decide, by decide, by decide +kernel⟩ rfl (by decide) ⟨by decide, by decide⟩ ⟨by decide, by decide⟩ rfl (bz_pre (by show 2 + 1 = _; omega) (zi_X2 hA (hP.cu (by show _ ≤ 2 + 1; omega) (by show 0 < 2 + 1; omega)))) ?_
  refine wk_self (k := 3) (j := 0) (by rw [cu_ne (fun q => absurd q.1 (by decide))]; exact hP 3 0 (by omega) (show (0 : Int) ≤ 0 ∧ (0 : Int) < 1 by omega).2 (by show _ ≤ 2; omega)) ?_
  refine wk_put1 (k := 1) (j := 0) (f := 4) (ci := 8) eX8_init_36 rfl in_X8 tyX8_ok nmX8 (by decide) mw_429 rfl (Nat.le_of_ble_eq_true rfl) rfl rfl (show (0 : Int) ≤ 0 ∧ (0 : Int) < 1 by omega) (by show 0 < _; omega) ?_
  refine wk_aload_n eX8_init_39 rfl ?_
  refine wk_new (k := 5) (j := 0) (ci := 6) (fs := [.null, vI 0, .null]) hA eX8_init_40 in_X6 tyX6 tyX6_ok mw_166 mw_167 mw_107 rfl (by decide +kernel) (show (0 : Int) ≤ 0 ∧ (0 : Int) < 12 by omega) (by show zS 0 = _; omega) ⟨by decide, by decide⟩ ?_
  refine wk_dup eX8_init_43 ?_
  refine wk_init (k := 5) (j := 0) (fun _ _ _ _ _ _ h => wk_T h) wk_O eX8_init_44 mw_168 mw_169 mw_107 mw_170 ⟨by decide, by decide, by decide +kernel⟩ rfl (by decide) ⟨by decide, by decide⟩ ⟨by decide, by decide⟩ rfl (bz_pre (by show zS 0 + 1 = _; omega) (zi_X6 hA (by omega) (hP.cu (by show _ ≤ zS 0 + 1; omega) (by show 0 < zS 0 + 1; omega)))) ?_
  refine wk_self (k := 5) (j := 0) (by rw [cu_ne (fun q => absurd q.1 (by decide))]; exact hP 5 0 (by omega) (show (0 : Int) ≤ 0 ∧ (0 : Int) < 12 by omega).2 (by show _ ≤ zS 0; omega)) ?_
  refine wk_put1 (k := 1) (j := 0) (f := 5) (ci := 8) eX8_init_47 rfl in_X8 tyX8_ok nmX8 (by decide) mw_430 rfl (Nat.le_of_ble_eq_true rfl) rfl rfl (show (0 : Int) ≤ 0 ∧ (0 : Int) < 1 by omega) (by show 0 < _; omega) ?_
  refine wk_aload_n eX8_init_50 rfl ?_
  refine wk_new (k := 5) (j := 1) (ci := 6) (fs := [.null, vI 0, .null]) hA eX8_init_51 in_X6 tyX6 tyX6_ok mw_166 mw_167 mw_107 rfl (by decide +kernel) (show (0 : Int) ≤ 1 ∧ (1 : Int) < 12 by omega) (by show zS 1 = _; omega) ⟨by decide, by decide⟩ ?_
  refine wk_dup eX8_init_54 ?_
  refine wk_init (k := 5) (j := 1) (fun _ _ _ _ _ _ h => wk_T h) wk_O eX8_init_55 mw_168 mw_169 mw_107 mw_170 ⟨by decide, by decide, by decide +kernel⟩ rfl (by decide) ⟨by decide, by decide⟩ ⟨by decide, by decide⟩ rfl (bz_pre (by show zS 1 + 1 = _; omega) (zi_X6 hA (by omega) (hP.cu (by show _ ≤ zS 1 + 1; omega) (by show 0 < zS 1 + 1; omega)))) ?_
  refine wk_self (k := 5) (j := 1) (by rw [cu_ne (fun q => absurd q.1 (by decide))]; exact hP 5 1 (by omega) (show (0 : Int) ≤ 1 ∧ (1 : Int) < 12 by omega).2 (by show _ ≤ zS 1; omega)) ?_
  refine wk_put1 (k := 1) (j := 0) (f := 6) (ci := 8) eX8_init_58 rfl in_X8 tyX8_ok nmX8 (by decide) mw_431 rfl (Nat.le_of_ble_eq_true rfl) rfl rfl (show (0 : Int) ≤ 0 ∧ (0 : Int) < 1 by omega) (by show 0 < _; omega) ?_
  refine wk_aload_n eX8_init_61 rfl ?_
  refine wk_new (k := 15) (j := 0) (ci := 1) (fs := [vI 0, vI 0, .null]) hA eX8_init_62 in_X1 tyX1 tyX1_ok mw_297 mw_298 mw_110 rfl (by decide +kernel) (show (0 : Int) ≤ 0 ∧ (0 : Int) < 1 by omega) (by show 42 = _; omega) ⟨by decide, by decide⟩ ?_
  refine wk_dup eX8_init_65 ?_
  refine wk_init (k := 15) (j := 0) (fun _ _ _ _ _ _ h => wk_T h) wk_O eX8_init_66 mw_299 mw_300 mw_110 mw_301 ⟨by decide, by decide, by decide +kernel⟩ rfl (by decide) ⟨by decide, by decide⟩ ⟨by decide, by decide⟩ rfl (bz_pre (by show 42 + 1 = _; omega) (zi_X1 hA (hP.cu (by show _ ≤ 42 + 1; omega) (by show 0 < 42 + 1; omega)))) ?_
  refine wk_self (k := 15) (j := 0) (by rw [cu_ne (fun q => absurd q.1 (by decide))]; exact hP 15 0 (by omega) (show (0 : Int) ≤ 0 ∧ (0 : Int) < 1 by omega).2 (by show _ ≤ 42; omega)) ?_
  refine wk_put1 (k := 1) (j := 0) (f := 7) (ci := 8) eX8_init_69 rfl in_X8 tyX8_ok nmX8 (by decide) mw_432 rfl (Nat.le_of_ble_eq_true rfl) rfl rfl (show (0 : Int) ≤ 0 ∧ (0 : Int) < 1 by omega) (by show 0 < _; omega) ?_
  refine wk_aload_n eX8_init_72 rfl ?_
  refine wk_new (k := 17) (j := 0) (ci := 4) (fs := [vI 0, vI 0, vI 0, vI 0, .null, .null, .null, vI 0, vI 0, .null, .null, .null]) hA eX8_init_73 in_X4 tyX4 tyX4_ok mw_317 mw_318 mw_111 rfl (by decide +kernel) (show (0 : Int) ≤ 0 ∧ (0 : Int) < 2 by omega) (by show zP 0 = _; omega) ⟨by decide, by decide⟩ ?_
  refine wk_dup eX8_init_76 ?_
  refine wk_initN (host := "BroadcastCarousel") (k := 17) (j := 0) (fun _ _ _ _ _ _ h => wk_T h) wk_O eX8_init_77 (by decide +kernel) mw_320 mw_111 mw_321 ⟨by decide, by decide, by decide +kernel⟩ rfl (by decide) ⟨by decide, by decide⟩ ⟨by decide, by decide⟩ rfl (bz_pre (by show zP 0 + 1 = _; omega) (zi_X4 hA (by omega) (hP.cu (by show _ ≤ zP 0 + 1; omega) (by show 0 < zP 0 + 1; omega)))) ?_
  refine wk_self (k := 17) (j := 0) (by rw [cu_ne (fun q => absurd q.1 (by decide))]; exact hP 17 0 (by omega) (show (0 : Int) ≤ 0 ∧ (0 : Int) < 2 by omega).2 (by show _ ≤ zP 0; omega)) ?_
  refine wk_put1 (k := 1) (j := 0) (f := 8) (ci := 8) eX8_init_80 rfl in_X8 tyX8_ok nmX8 (by decide) mw_433 rfl (Nat.le_of_ble_eq_true rfl) rfl rfl (show (0 : Int) ≤ 0 ∧ (0 : Int) < 1 by omega) (by show 0 < _; omega) ?_
  refine wk_aload_n eX8_init_83 rfl ?_
  refine wk_new (k := 6) (j := 12) (ci := 5) (fs := [vI 0, vI 0, vI 0, vI 0, .null, .null, .null, .null]) hA eX8_init_84 in_X5 tyX5 tyX5_ok mw_366 mw_173 mw_108 rfl (by decide +kernel) (show (0 : Int) ≤ 12 ∧ (12 : Int) < 13 by omega) (by show zT 12 = _; omega) ⟨by decide, by decide⟩ ?_
  refine wk_dup eX8_init_87 ?_
  refine wk_initN (host := "BroadcastCarousel") (k := 6) (j := 12) (fun _ _ _ _ _ _ h => wk_T h) wk_O eX8_init_88 (by decide +kernel) mw_175 mw_108 mw_176 ⟨by decide, by decide, by decide +kernel⟩ rfl (by decide) ⟨by decide, by decide⟩ ⟨by decide, by decide⟩ rfl (bz_pre (by show zT 12 + 1 = _; omega) (zi_X5 hA (by omega) (hP.cu (by show _ ≤ zT 12 + 1; omega) (by show 0 < zT 12 + 1; omega)))) ?_
  refine wk_self (k := 6) (j := 12) (by rw [cu_ne (fun q => absurd q.1 (by decide))]; exact hP 6 12 (by omega) (show (0 : Int) ≤ 12 ∧ (12 : Int) < 13 by omega).2 (by show _ ≤ zT 12; omega)) ?_
  refine wk_put1 (k := 1) (j := 0) (f := 9) (ci := 8) eX8_init_91 rfl in_X8 tyX8_ok nmX8 (by decide) mw_434 rfl (Nat.le_of_ble_eq_true rfl) rfl rfl (show (0 : Int) ≤ 0 ∧ (0 : Int) < 1 by omega) (by show 0 < _; omega) ?_
  refine wk_aload_n eX8_init_94 rfl ?_
  refine wk_new (k := 17) (j := 1) (ci := 4) (fs := [vI 0, vI 0, vI 0, vI 0, .null, .null, .null, vI 0, vI 0, .null, .null, .null]) hA eX8_init_95 in_X4 tyX4 tyX4_ok mw_317 mw_318 mw_111 rfl (by decide +kernel) (show (0 : Int) ≤ 1 ∧ (1 : Int) < 2 by omega) (by show zP 1 = _; omega) ⟨by decide, by decide⟩ ?_
  refine wk_dup eX8_init_98 ?_
  refine wk_initN (host := "BroadcastCarousel") (k := 17) (j := 1) (fun _ _ _ _ _ _ h => wk_T h) wk_O eX8_init_99 (by decide +kernel) mw_320 mw_111 mw_321 ⟨by decide, by decide, by decide +kernel⟩ rfl (by decide) ⟨by decide, by decide⟩ ⟨by decide, by decide⟩ rfl (bz_pre (by show zP 1 + 1 = _; omega) (zi_X4 hA (by omega) (hP.cu (by show _ ≤ zP 1 + 1; omega) (by show 0 < zP 1 + 1; omega)))) ?_
  refine wk_self (k := 17) (j := 1) (by rw [cu_ne (fun q => absurd q.1 (by decide))]; exact hP 17 1 (by omega) (show (0 : Int) ≤ 1 ∧ (1 : Int) < 2 by omega).2 (by show _ ≤ zP 1; omega)) ?_
  refine wk_put1 (k := 1) (j := 0) (f := 10) (ci := 8) eX8_init_102 rfl in_X8 tyX8_ok nmX8 (by decide) mw_435 rfl (Nat.le_of_ble_eq_true rfl) rfl rfl (show (0 : Int) ≤ 0 ∧ (0 : Int) < 1 by omega) (by show 0 < _; omega) ?_
  refine wk_aload_n eX8_init_105 rfl ?_
  refine wk_new (k := 12) (j := 48) (ci := 0) (fs := [vI 0, vI 0, vI 0, vI 0, vI 0, vI 0, vI 0, vI 0, vI 0, .null, .null]) hA eX8_init_106 in_X0 tyX0 tyX0_ok mw_368 mw_235 mw_109 rfl (by decide +kernel) (show (0 : Int) ≤ 48 ∧ (48 : Int) < 50 by omega) (by show zC 48 = _; omega) ⟨by decide, by decide⟩ ?_
  refine wk_dup eX8_init_109 ?_
  refine wk_initN (host := "BroadcastCarousel") (k := 12) (j := 48) (fun _ _ _ _ _ _ h => wk_T h) wk_O eX8_init_110 (by decide +kernel) mw_237 mw_109 mw_238 ⟨by decide, by decide, by decide +kernel⟩ rfl (by decide) ⟨by decide, by decide⟩ ⟨by decide, by decide⟩ rfl (bz_pre (by show zC 48 + 1 = _; omega) (zi_X0 hA (by omega) (hP.cu (by show _ ≤ zC 48 + 1; omega) (by show 0 < zC 48 + 1; omega)))) ?_
  refine wk_self (k := 12) (j := 48) (by rw [cu_ne (fun q => absurd q.1 (by decide))]; exact hP 12 48 (by omega) (show (0 : Int) ≤ 48 ∧ (48 : Int) < 50 by omega).2 (by show _ ≤ zC 48; omega)) ?_
  refine wk_put1 (k := 1) (j := 0) (f := 11) (ci := 8) eX8_init_113 rfl in_X8 tyX8_ok nmX8 (by decide) mw_436 rfl (Nat.le_of_ble_eq_true rfl) rfl rfl (show (0 : Int) ≤ 0 ∧ (0 : Int) < 1 by omega) (by show 0 < _; omega) ?_
  refine wk_aload_n eX8_init_116 rfl ?_
  refine wk_new (k := 25) (j := 0) (ci := 7) (fs := [.null, .null, .null, vJ 0, vI 0, .null]) hA eX8_init_117 in_X7 tyX7 tyX7_ok mw_370 mw_371 mw_112 rfl (by decide +kernel) (show (0 : Int) ≤ 0 ∧ (0 : Int) < 1 by omega) (by show 288 = _; omega) ⟨by decide, by decide⟩ ?_
  refine wk_dup eX8_init_120 ?_
  refine wk_initN (host := "BroadcastCarousel") (k := 25) (j := 0) (fun _ _ _ _ _ _ h => wk_T h) wk_O eX8_init_121 (by decide +kernel) mw_373 mw_112 mw_374 ⟨by decide, by decide, by decide +kernel⟩ rfl (by decide) ⟨by decide, by decide⟩ ⟨by decide, by decide⟩ rfl (bz_pre (by show 288 + 1 = _; omega) (zi_X7 hA (hP.cu (by show _ ≤ 288 + 1; omega) (by show 0 < 288 + 1; omega)))) ?_
  refine wk_self (k := 25) (j := 0) (by rw [cu_ne (fun q => absurd q.1 (by decide))]; exact hP 25 0 (by omega) (show (0 : Int) ≤ 0 ∧ (0 : Int) < 1 by omega).2 (by show _ ≤ 288; omega)) ?_
  refine wk_put1 (k := 1) (j := 0) (f := 12) (ci := 8) eX8_init_124 rfl in_X8 tyX8_ok nmX8 (by decide) mw_437 rfl (Nat.le_of_ble_eq_true rfl) rfl rfl (show (0 : Int) ≤ 0 ∧ (0 : Int) < 1 by omega) (by show 0 < _; omega) ?_
  refine wk_aload_n eX8_init_127 rfl ?_
  refine wk_new (k := 30) (j := 0) (ci := 3) (fs := [vI 0, .null, vI 0, .null, .null]) hA eX8_init_128 in_X3 tyX3 tyX3_ok mw_399 mw_400 mw_113 rfl (by decide +kernel) (show (0 : Int) ≤ 0 ∧ (0 : Int) < 1 by omega) (by show 293 = _; omega) ⟨by decide, by decide⟩ ?_
  refine wk_dup eX8_init_131 ?_
  refine wk_initN (host := "BroadcastCarousel") (k := 30) (j := 0) (fun _ _ _ _ _ _ h => wk_T h) wk_O eX8_init_132 (by decide +kernel) mw_402 mw_113 mw_403 ⟨by decide, by decide, by decide +kernel⟩ rfl (by decide) ⟨by decide, by decide⟩ ⟨by decide, by decide⟩ rfl (bz_pre (by show 293 + 1 = _; omega) (zi_X3 hA (hP.cu (by show _ ≤ 293 + 1; omega) (by show 0 < 293 + 1; omega)))) ?_
  refine wk_self (k := 30) (j := 0) (by rw [cu_ne (fun q => absurd q.1 (by decide))]; exact hP 30 0 (by omega) (show (0 : Int) ≤ 0 ∧ (0 : Int) < 1 by omega).2 (by show _ ≤ 293; omega)) ?_
  refine wk_put1 (k := 1) (j := 0) (f := 13) (ci := 8) eX8_init_135 rfl in_X8 tyX8_ok nmX8 (by decide) mw_438 rfl (Nat.le_of_ble_eq_true rfl) rfl rfl (show (0 : Int) ≤ 0 ∧ (0 : Int) < 1 by omega) (by show 0 < _; omega) ?_
  exact wk_return eX8_init_138 (fun H h => bz_H_n h (by omega))
set_option maxHeartbeats 20000000 in
theorem zi_X9 {G : bc_G} {C : bz_C} (hA : bz_ad G) (hP : PL G C (299 + 1)) : bz_Call G yX9_init cX9_init 1 1 17 7712 [vR G 33 0] (bz_H G (299 + 1) (cu C 33 0 (.inr (9, [.null, .null, vI 0, vI 0, vI 0, vI 0, vI 0, vI 0, .null, .null, .null, vI 0, vI 0, vI 0, vI 0, vI 0, vI 0, vI 0, vI 0, .null, vI 0, vI 0, vI 0, .null, .null, vI 0, .null, vI 0, .null, .null, vI 0, .null, .null, .null, vJ 0, vI 0, vI 0, .null, .null, .null, vI 0, vI 0])))) (bz_H G (299 + 18) (cu C 33 0 (bz_C0 G 33 0))) := by
  refine bz_enter (L := [some (vR G 33 0)]) (by decide) rfl rfl rfl ?_
  refine wk_aload_n eX9_init_0 rfl ?_
  refine wk_objInit eX9_init_1 mw_1351 mw_134 mw_135 ⟨by decide, by decide⟩ ?_
  refine wk_aload_n eX9_init_4 rfl ?_
  refine wk_sipush eX9_init_5 ?_
  refine wk_newi (k := 34) (j := 0) (N' := 206) hA eX9_init_8 (by rw [cu_ne (fun q => absurd q.1 (by decide))]; exact hP 34 0 (by omega) (show (0 : Int) ≤ 0 ∧ (0 : Int) < 1 by omega).2 (by show _ ≤ 300; omega)) rfl rfl (by decide) (show (0 : Int) ≤ 0 ∧ (0 : Int) < 1 by omega) (by show 300 = _; omega) ⟨by decide, by decide⟩ ?_
  refine wk_put1 (k := 33) (j := 0) (f := 0) (ci := 9) eX9_init_10 rfl in_X9 tyX9_ok nmX9 (by decide) mw_1352 rfl (Nat.le_of_ble_eq_true rfl) rfl rfl (show (0 : Int) ≤ 0 ∧ (0 : Int) < 1 by omega) (by show 299 < _; omega) ?_
  refine wk_aload_n eX9_init_13 rfl ?_
  refine wk_sipush eX9_init_14 ?_
  refine wk_newi (k := 35) (j := 0) (N' := 2060) hA eX9_init_17 (by rw [cu_ne (fun q => absurd q.1 (by decide))]; exact hP 35 0 (by omega) (show (0 : Int) ≤ 0 ∧ (0 : Int) < 1 by omega).2 (by show _ ≤ 301; omega)) rfl rfl (by decide) (show (0 : Int) ≤ 0 ∧ (0 : Int) < 1 by omega) (by show 301 = _; omega) ⟨by decide, by decide⟩ ?_
  refine wk_put1 (k := 33) (j := 0) (f := 1) (ci := 9) eX9_init_19 rfl in_X9 tyX9_ok nmX9 (by decide) mw_1353 rfl (Nat.le_of_ble_eq_true rfl) rfl rfl (show (0 : Int) ≤ 0 ∧ (0 : Int) < 1 by omega) (by show 299 < _; omega) ?_
  refine wk_aload_n eX9_init_22 rfl ?_
  refine wk_iconst eX9_init_23 ?_
  refine wk_newi (k := 36) (j := 0) (N' := 4) hA eX9_init_24 (by rw [cu_ne (fun q => absurd q.1 (by decide))]; exact hP 36 0 (by omega) (show (0 : Int) ≤ 0 ∧ (0 : Int) < 1 by omega).2 (by show _ ≤ 302; omega)) rfl rfl (by decide) (show (0 : Int) ≤ 0 ∧ (0 : Int) < 1 by omega) (by show 302 = _; omega) ⟨by decide, by decide⟩ ?_
  refine wk_put1 (k := 33) (j := 0) (f := 8) (ci := 9) eX9_init_26 rfl in_X9 tyX9_ok nmX9 (by decide) mw_1360 rfl (Nat.le_of_ble_eq_true rfl) rfl rfl (show (0 : Int) ≤ 0 ∧ (0 : Int) < 1 by omega) (by show 299 < _; omega) ?_
  refine wk_aload_n eX9_init_29 rfl ?_
  refine wk_iconst eX9_init_30 ?_
  refine wk_newi (k := 37) (j := 0) (N' := 4) hA eX9_init_31 (by rw [cu_ne (fun q => absurd q.1 (by decide))]; exact hP 37 0 (by omega) (show (0 : Int) ≤ 0 ∧ (0 : Int) < 1 by omega).2 (by show _ ≤ 303; omega)) rfl rfl (by decide) (show (0 : Int) ≤ 0 ∧ (0 : Int) < 1 by omega) (by show 303 = _; omega) ⟨by decide, by decide⟩ ?_
  refine wk_put1 (k := 33) (j := 0) (f := 9) (ci := 9) eX9_init_33 rfl in_X9 tyX9_ok nmX9 (by decide) mw_1361 rfl (Nat.le_of_ble_eq_true rfl) rfl rfl (show (0 : Int) ≤ 0 ∧ (0 : Int) < 1 by omega) (by show 299 < _; omega) ?_
  refine wk_aload_n eX9_init_36 rfl ?_
  refine wk_sipush eX9_init_37 ?_
  refine wk_newi (k := 38) (j := 0) (N' := 500) hA eX9_init_40 (by rw [cu_ne (fun q => absurd q.1 (by decide))]; exact hP 38 0 (by omega) (show (0 : Int) ≤ 0 ∧ (0 : Int) < 1 by omega).2 (by show _ ≤ 304; omega)) rfl rfl (by decide) (show (0 : Int) ≤ 0 ∧ (0 : Int) < 1 by omega) (by show 304 = _; omega) ⟨by decide, by decide⟩ ?_
  refine wk_put1 (k := 33) (j := 0) (f := 10) (ci := 9) eX9_init_42 rfl in_X9 tyX9_ok nmX9 (by decide) mw_1362 rfl (Nat.le_of_ble_eq_true rfl) rfl rfl (show (0 : Int) ≤ 0 ∧ (0 : Int) < 1 by omega) (by show 299 < _; omega) ?_
  refine wk_aload_n eX9_init_45 rfl ?_
  refine wk_iconst eX9_init_46 ?_
  refine wk_put1 (k := 33) (j := 0) (f := 18) (ci := 9) eX9_init_47 rfl in_X9 tyX9_ok nmX9 (by decide) mw_1370 rfl (Nat.le_of_ble_eq_true rfl) rfl rfl (show (0 : Int) ≤ 0 ∧ (0 : Int) < 1 by omega) (by show 299 < _; omega) ?_
  refine wk_aload_n eX9_init_50 rfl ?_
  refine wk_bipush eX9_init_51 ?_
  refine wk_newi (k := 39) (j := 0) (N' := 62) hA eX9_init_53 (by rw [cu_ne (fun q => absurd q.1 (by decide))]; exact hP 39 0 (by omega) (show (0 : Int) ≤ 0 ∧ (0 : Int) < 1 by omega).2 (by show _ ≤ 305; omega)) rfl rfl (by decide) (show (0 : Int) ≤ 0 ∧ (0 : Int) < 1 by omega) (by show 305 = _; omega) ⟨by decide, by decide⟩ ?_
  refine wk_put1 (k := 33) (j := 0) (f := 19) (ci := 9) eX9_init_55 rfl in_X9 tyX9_ok nmX9 (by decide) mw_1371 rfl (Nat.le_of_ble_eq_true rfl) rfl rfl (show (0 : Int) ≤ 0 ∧ (0 : Int) < 1 by omega) (by show 299 < _; omega) ?_
  refine wk_aload_n eX9_init_58 rfl ?_
  refine wk_sipush eX9_init_59 ?_
  refine wk_newi (k := 40) (j := 0) (N' := 1442) hA eX9_init_62 (by rw [cu_ne (fun q => absurd q.1 (by decide))]; exact hP 40 0 (by omega) (show (0 : Int) ≤ 0 ∧ (0 : Int) < 1 by omega).2 (by show _ ≤ 306; omega)) rfl rfl (by decide) (show (0 : Int) ≤ 0 ∧ (0 : Int) < 1 by omega) (by show 306 = _; omega) ⟨by decide, by decide⟩ ?_
  refine wk_put1 (k := 33) (j := 0) (f := 23) (ci := 9) eX9_init_64 rfl in_X9 tyX9_ok nmX9 (by decide) mw_1375 rfl (Nat.le_of_ble_eq_true rfl) rfl rfl (show (0 : Int) ≤ 0 ∧ (0 : Int) < 1 by omega) (by show 299 < _; omega) ?_
  refine wk_aload_n eX9_init_67 rfl ?_
  refine wk_sipush eX9_init_68 ?_
  refine wk_newi (k := 41) (j := 0) (N' := 600) hA eX9_init_71 (by rw [cu_ne (fun q => absurd q.1 (by decide))]; exact hP 41 0 (by omega) (show (0 : Int) ≤ 0 ∧ (0 : Int) < 1 by omega).2 (by show _ ≤ 307; omega)) rfl rfl (by decide) (show (0 : Int) ≤ 0 ∧ (0 : Int) < 1 by omega) (by show 307 = _; omega) ⟨by decide, by decide⟩ ?_
  refine wk_put1 (k := 33) (j := 0) (f := 24) (ci := 9) eX9_init_73 rfl in_X9 tyX9_ok nmX9 (by decide) mw_1376 rfl (Nat.le_of_ble_eq_true rfl) rfl rfl (show (0 : Int) ≤ 0 ∧ (0 : Int) < 1 by omega) (by show 299 < _; omega) ?_
  refine wk_aload_n eX9_init_76 rfl ?_
  refine wk_sipush eX9_init_77 ?_
  refine wk_newi (k := 42) (j := 0) (N' := 700) hA eX9_init_80 (by rw [cu_ne (fun q => absurd q.1 (by decide))]; exact hP 42 0 (by omega) (show (0 : Int) ≤ 0 ∧ (0 : Int) < 1 by omega).2 (by show _ ≤ 308; omega)) rfl rfl (by decide) (show (0 : Int) ≤ 0 ∧ (0 : Int) < 1 by omega) (by show 308 = _; omega) ⟨by decide, by decide⟩ ?_
  refine wk_put1 (k := 33) (j := 0) (f := 26) (ci := 9) eX9_init_82 rfl in_X9 tyX9_ok nmX9 (by decide) mw_1378 rfl (Nat.le_of_ble_eq_true rfl) rfl rfl (show (0 : Int) ≤ 0 ∧ (0 : Int) < 1 by omega) (by show 299 < _; omega) ?_
  refine wk_aload_n eX9_init_85 rfl ?_
  refine wk_sipush eX9_init_86 ?_
  refine wk_newi (k := 43) (j := 0) (N' := 700) hA eX9_init_89 (by rw [cu_ne (fun q => absurd q.1 (by decide))]; exact hP 43 0 (by omega) (show (0 : Int) ≤ 0 ∧ (0 : Int) < 1 by omega).2 (by show _ ≤ 309; omega)) rfl rfl (by decide) (show (0 : Int) ≤ 0 ∧ (0 : Int) < 1 by omega) (by show 309 = _; omega) ⟨by decide, by decide⟩ ?_
  refine wk_put1 (k := 33) (j := 0) (f := 28) (ci := 9) eX9_init_91 rfl in_X9 tyX9_ok nmX9 (by decide) mw_1380 rfl (Nat.le_of_ble_eq_true rfl) rfl rfl (show (0 : Int) ≤ 0 ∧ (0 : Int) < 1 by omega) (by show 299 < _; omega) ?_
  refine wk_aload_n eX9_init_94 rfl ?_
  refine wk_sipush eX9_init_95 ?_
  refine wk_newi (k := 44) (j := 0) (N' := 700) hA eX9_init_98 (by rw [cu_ne (fun q => absurd q.1 (by decide))]; exact hP 44 0 (by omega) (show (0 : Int) ≤ 0 ∧ (0 : Int) < 1 by omega).2 (by show _ ≤ 310; omega)) rfl rfl (by decide) (show (0 : Int) ≤ 0 ∧ (0 : Int) < 1 by omega) (by show 310 = _; omega) ⟨by decide, by decide⟩ ?_
  refine wk_put1 (k := 33) (j := 0) (f := 29) (ci := 9) eX9_init_100 rfl in_X9 tyX9_ok nmX9 (by decide) mw_1381 rfl (Nat.le_of_ble_eq_true rfl) rfl rfl (show (0 : Int) ≤ 0 ∧ (0 : Int) < 1 by omega) (by show 299 < _; omega) ?_
  refine wk_aload_n eX9_init_103 rfl ?_
  refine wk_bipush eX9_init_104 ?_
  refine wk_newi (k := 45) (j := 0) (N' := 16) hA eX9_init_106 (by rw [cu_ne (fun q => absurd q.1 (by decide))]; exact hP 45 0 (by omega) (show (0 : Int) ≤ 0 ∧ (0 : Int) < 1 by omega).2 (by show _ ≤ 311; omega)) rfl rfl (by decide) (show (0 : Int) ≤ 0 ∧ (0 : Int) < 1 by omega) (by show 311 = _; omega) ⟨by decide, by decide⟩ ?_
  refine wk_put1 (k := 33) (j := 0) (f := 31) (ci := 9) eX9_init_108 rfl in_X9 tyX9_ok nmX9 (by decide) mw_1383 rfl (Nat.le_of_ble_eq_true rfl) rfl rfl (show (0 : Int) ≤ 0 ∧ (0 : Int) < 1 by omega) (by show 299 < _; omega) ?_
  refine wk_aload_n eX9_init_111 rfl ?_
  refine wk_iconst eX9_init_112 ?_
  refine wk_newi (k := 46) (j := 0) (N' := 4) hA eX9_init_113 (by rw [cu_ne (fun q => absurd q.1 (by decide))]; exact hP 46 0 (by omega) (show (0 : Int) ≤ 0 ∧ (0 : Int) < 1 by omega).2 (by show _ ≤ 312; omega)) rfl rfl (by decide) (show (0 : Int) ≤ 0 ∧ (0 : Int) < 1 by omega) (by show 312 = _; omega) ⟨by decide, by decide⟩ ?_
  refine wk_put1 (k := 33) (j := 0) (f := 32) (ci := 9) eX9_init_115 rfl in_X9 tyX9_ok nmX9 (by decide) mw_1384 rfl (Nat.le_of_ble_eq_true rfl) rfl rfl (show (0 : Int) ≤ 0 ∧ (0 : Int) < 1 by omega) (by show 299 < _; omega) ?_
  refine wk_aload_n eX9_init_118 rfl ?_
  refine wk_iconst eX9_init_119 ?_
  refine wk_newi (k := 47) (j := 0) (N' := 4) hA eX9_init_120 (by rw [cu_ne (fun q => absurd q.1 (by decide))]; exact hP 47 0 (by omega) (show (0 : Int) ≤ 0 ∧ (0 : Int) < 1 by omega).2 (by show _ ≤ 313; omega)) rfl rfl (by decide) (show (0 : Int) ≤ 0 ∧ (0 : Int) < 1 by omega) (by show 313 = _; omega) ⟨by decide, by decide⟩ ?_
  refine wk_put1 (k := 33) (j := 0) (f := 33) (ci := 9) eX9_init_122 rfl in_X9 tyX9_ok nmX9 (by decide) mw_1385 rfl (Nat.le_of_ble_eq_true rfl) rfl rfl (show (0 : Int) ≤ 0 ∧ (0 : Int) < 1 by omega) (by show 299 < _; omega) ?_
  refine wk_aload_n eX9_init_125 rfl ?_
  refine wk_sipush eX9_init_126 ?_
  refine wk_newi (k := 48) (j := 0) (N' := 700) hA eX9_init_129 (by rw [cu_ne (fun q => absurd q.1 (by decide))]; exact hP 48 0 (by omega) (show (0 : Int) ≤ 0 ∧ (0 : Int) < 1 by omega).2 (by show _ ≤ 314; omega)) rfl rfl (by decide) (show (0 : Int) ≤ 0 ∧ (0 : Int) < 1 by omega) (by show 314 = _; omega) ⟨by decide, by decide⟩ ?_
  refine wk_put1 (k := 33) (j := 0) (f := 37) (ci := 9) eX9_init_131 rfl in_X9 tyX9_ok nmX9 (by decide) mw_1389 rfl (Nat.le_of_ble_eq_true rfl) rfl rfl (show (0 : Int) ≤ 0 ∧ (0 : Int) < 1 by omega) (by show 299 < _; omega) ?_
  refine wk_aload_n eX9_init_134 rfl ?_
  refine wk_iconst eX9_init_135 ?_
  refine wk_newi (k := 49) (j := 0) (N' := 5) hA eX9_init_136 (by rw [cu_ne (fun q => absurd q.1 (by decide))]; exact hP 49 0 (by omega) (show (0 : Int) ≤ 0 ∧ (0 : Int) < 1 by omega).2 (by show _ ≤ 315; omega)) rfl rfl (by decide) (show (0 : Int) ≤ 0 ∧ (0 : Int) < 1 by omega) (by show 315 = _; omega) ⟨by decide, by decide⟩ ?_
  refine wk_put1 (k := 33) (j := 0) (f := 38) (ci := 9) eX9_init_138 rfl in_X9 tyX9_ok nmX9 (by decide) mw_1390 rfl (Nat.le_of_ble_eq_true rfl) rfl rfl (show (0 : Int) ≤ 0 ∧ (0 : Int) < 1 by omega) (by show 299 < _; omega) ?_
  refine wk_aload_n eX9_init_141 rfl ?_
  refine wk_iconst eX9_init_142 ?_
  refine wk_newi (k := 50) (j := 0) (N' := 5) hA eX9_init_143 (by rw [cu_ne (fun q => absurd q.1 (by decide))]; exact hP 50 0 (by omega) (show (0 : Int) ≤ 0 ∧ (0 : Int) < 1 by omega).2 (by show _ ≤ 316; omega)) rfl rfl (by decide) (show (0 : Int) ≤ 0 ∧ (0 : Int) < 1 by omega) (by show 316 = _; omega) ⟨by decide, by decide⟩ ?_
  refine wk_put1 (k := 33) (j := 0) (f := 39) (ci := 9) eX9_init_145 rfl in_X9 tyX9_ok nmX9 (by decide) mw_1391 rfl (Nat.le_of_ble_eq_true rfl) rfl rfl (show (0 : Int) ≤ 0 ∧ (0 : Int) < 1 by omega) (by show 299 < _; omega) ?_
  exact wk_return eX9_init_148 (fun H h => bz_H_n h (by omega))
