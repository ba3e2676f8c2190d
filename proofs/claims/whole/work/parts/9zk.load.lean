/-! a step of the law: load -/
theorem st_load {G : bc_G} {M : bc_M} {n : Int} (hK : KK M n) : bc_Call G yX8_load cX8_load 3 (some .int) 10 0 [vR G 1 0] M (fun r Y => ∃ x, r = .inr (some (vI x)) ∧ bc_Call G yX9_load cX9_load 1 (some .int) 7 0 [vR G 33 0] Y (fun r' Z => r' = .inr (some (vI x)) ∧ KK Z (n + 1))) := by
  have hbc := hK.2.2.1.bc
  obtain ⟨⟨t1, t2, t3⟩, t4⟩ := hK.2.2.1
  have hx := hK.2.2.2.2.2.2.2.2.2.1
  refine ct_load (b := M 38 0) (D0 := M 39 0) hbc.1 hK.2.2.2.2.1 (fun hE M1 hF h9 => ?_) (fun hE M1 M3 M4 hF hDF h9 hF3 hst hsm hF4 hbr => ?_)
  · refine ⟨_, rfl, ?_⟩
    have yo : ∀ k j, k ≠ 1 → ¬ rdP 0 k j → bc_up M1 1 0 2 (ldE (M 38 0) (M 1 0 1) (M 39 0)).2.1 k j = M k j := fun k j a b => by rw [up_kne a, hF k j b, up_kne a]
    have y1 : bc_up M1 1 0 2 (ldE (M 38 0) (M 1 0 1) (M 39 0)).2.1 1 0 = bc_u (bc_u (M 1 0) 1 0) 2 (ldE (M 38 0) (M 1 0 1) (M 39 0)).2.1 := by rw [up_at, hF 1 0 (by unfold rdP; omega), up_at]
    have y9 : bc_up M1 1 0 2 (ldE (M 38 0) (M 1 0 1) (M 39 0)).2.1 9 0 = M1 9 0 := up_kne (by decide)
    generalize bc_up M1 1 0 2 (ldE (M 38 0) (M 1 0 1) (M 39 0)).2.1 = Y at yo y1 y9 ⊢
    have y33 := yo 33 0 (by decide) (by unfold rdP; omega)
    have y38 := yo 38 0 (by decide) (by unfold rdP; omega)
    have y39 := yo 39 0 (by decide) (by unfold rdP; omega)
    refine ct_mLoad (by rw [y38, y33]; exact hbc.2) (by rw [y33, t1]; omega) (fun hE2 Z hL h18 => ?_) (fun hE2 => ?_)
    · rw [y38, y39, y33, t1] at h18 hE2 ⊢
      refine ⟨rfl, ?_⟩
      obtain ⟨l1, l2, l4, l11⟩ := hL
      have zo : ∀ k j, k ≠ 33 → k ≠ 39 → Z k j = Y k j := fun k j a b => l1 k j (by omega)
      refine hK.txt (by omega) (fun k j h => ?_) (by rw [zo 1 0 (by decide) (by decide), y1, u_ne (by decide), u_ne (by decide)]) (fun f hf => by rw [l2 f (by omega) (by omega), y33]) ?_ ?_ ?_
      · rw [zo k j (by omega) (by unfold IR at h; omega), yo k j (by omega) (fun q => h (Or.inr (Or.inr (Or.inr (Or.inr (Or.inr q))))))]
      · unfold TX
        rw [l11, zo 1 0 (by decide) (by decide), y1, u_ne (by decide), u_at]
        exact ⟨⟨rfl, by omega, by omega⟩, fun q a b => by omega⟩
      · rw [h18, zo 1 0 (by decide) (by decide), y1, u_at]
      · rw [zo 9 0 (by decide) (by decide), y9]
        exact h9
    · rw [y38, y39, y33, t1] at hE2
      exact absurd hE2 hE
  · refine ⟨_, rfl, ?_⟩
    have hlo := ld_ok hE
    have yo : ∀ k j, k ≠ 1 → k ≠ 15 → ¬ rdP 0 k j → ¬ STP 1 k j → ¬ bpP 0 k j → bc_up (bc_up M4 15 0 0 0) 1 0 3 1 k j = M k j := fun k j a b c d e => by rw [up_kne a, up_kne b, hF4 k j e, hF3 k j d, up_kne a, hF k j c, up_kne a]
    have y1 : bc_up (bc_up M4 15 0 0 0) 1 0 3 1 1 0 = bc_u (bc_u (bc_u (M 1 0) 1 0) 2 (-1)) 3 1 := by rw [up_at, up_kne (by decide), hF4 1 0 (by unfold bpP; omega), hF3 1 0 (by unfold STP; omega), up_at, hF 1 0 (by unfold rdP; omega), up_at]
    have y15 : bc_up (bc_up M4 15 0 0 0) 1 0 3 1 15 0 = bc_u (M 15 0) 0 0 := by rw [up_kne (by decide), up_at, hF4 15 0 (by unfold bpP; omega), hF3 15 0 (by unfold STP; omega), up_kne (by decide), hF 15 0 (by unfold rdP; omega), up_kne (by decide)]
    have y9 : bc_up (bc_up M4 15 0 0 0) 1 0 3 1 9 0 = M1 9 0 := by rw [up_kne (by decide), up_kne (by decide), hF4 9 0 (by unfold bpP; omega), hF3 9 0 (by unfold STP; omega), up_kne (by decide)]
    have yS : ∀ k j, STP 1 k j → bc_up (bc_up M4 15 0 0 0) 1 0 3 1 k j = M3 k j := fun k j hk => by
      unfold STP at hk
      rw [up_kne (by omega), up_kne (by omega), hF4 k j (by unfold bpP; omega)]
    have yB : ∀ k j, k ≠ 1 → k ≠ 15 → bc_up (bc_up M4 15 0 0 0) 1 0 3 1 k j = M4 k j := fun k j a b => by rw [up_kne a, up_kne b]
    generalize bc_up (bc_up M4 15 0 0 0) 1 0 3 1 = Y at yo y1 y9 y15 yS yB ⊢
    have y33 := yo 33 0 (by decide) (by decide) (by unfold rdP; omega) (by unfold STP; omega) (by unfold bpP; omega)
    have y38 := yo 38 0 (by decide) (by decide) (by unfold rdP; omega) (by unfold STP; omega) (by unfold bpP; omega)
    have y39 := yo 39 0 (by decide) (by decide) (by unfold rdP; omega) (by unfold STP; omega) (by unfold bpP; omega)
    have s0 : ∀ k j, k ≠ 1 → bc_up M1 1 0 2 (-1) k j = M1 k j := fun k j a => up_kne a
    obtain ⟨⟨q7, q8, q9, q10, q6⟩, q5, qc⟩ := hst
    refine ct_mLoad (by rw [y38, y33]; exact hbc.2) (by rw [y33, t1]; omega) (fun hE2 => ?_) (fun hE2 N1 Z hL h18 hTK => ?_)
    · rw [y38, y39, y33, t1] at hE2
      exact absurd hE hE2
    · rw [y38, y39, y33, t1] at hTK ⊢
      refine ⟨rfl, ?_⟩
      generalize (ldC (M 38 0) (M 1 0 1) (M 39 0)).2.2 = D at hlo hDF hTK
      generalize (ldD (M 38 0) (M 1 0 1) (M 39 0)).2.1 = nd at hlo hDF hTK
      generalize (ldI (M 38 0) (M 1 0 1) (M 39 0)).2.1 = ni at hlo hDF hTK
      generalize (ldC (M 38 0) (M 1 0 1) (M 39 0)).2.1 = nc at hlo hDF hTK
      obtain ⟨l1, l2, l4, l11⟩ := hL
      obtain ⟨k1, k2, ⟨z2, z3, z5, z6, z7⟩, ⟨z52, z53⟩, z48, z16, z54, z36⟩ := hTK
      obtain ⟨⟨d60, d61, d62, d63⟩, d7, d8, d5, dc⟩ := hDF
      obtain ⟨o1, o2, o3, o4, o5, o6, o7, o8⟩ := hlo
      have zo : ∀ k j, k ≠ 33 → k ≠ 34 → k ≠ 36 → k ≠ 37 → k ≠ 39 → Z k j = Y k j := fun k j a b c d e => by rw [k1 k j (by omega), l1 k j (by omega)]
      have zS : ∀ k j, STP 1 k j → Z k j = M3 k j := fun k j hk => by
        rw [zo k j (by unfold STP at hk; omega) (by unfold STP at hk; omega) (by unfold STP at hk; omega) (by unfold STP at hk; omega) (by unfold STP at hk; omega), yS k j hk]
      have z1 : Z 1 0 = bc_u (bc_u (bc_u (M 1 0) 1 0) 2 (-1)) 3 1 := by rw [zo 1 0 (by decide) (by decide) (by decide) (by decide) (by decide), y1]
      have z15 : Z 15 0 = bc_u (M 15 0) 0 0 := by rw [zo 15 0 (by decide) (by decide) (by decide) (by decide) (by decide), y15]
      have zf : ∀ k, (k = 5 ∨ k = 6 ∨ k = 7 ∨ k = 8 ∨ k = 9 ∨ k = 10) → Z k 1 = M3 k 1 := fun k hk => zS k 1 (Or.inl ⟨hk, rfl⟩)
      have hcl0 : ∀ c, 0 ≤ c → c < nc → ∀ q, 0 ≤ q → q < 38 → rCl (Z 34 0) c q = 0 := fun c a b q x y => z54 (54 + 38 * c + q) (by omega) (by omega)
      have hS : SE Z 1 (Z 34 0) nd ni nc (Z 36 0) (Z 37 0) := by
        refine ⟨⟨?_, ?_, ?_, ?_⟩, ⟨fun i a b => ?_, fun i a b => ?_, fun i a b => ?_, fun i a b => ?_⟩, ?_, ?_, fun c a b => ?_⟩
        · rw [zf 6 (by decide), q6 0 (by decide) (by decide), s0 6 0 (by decide), d60, z52]
        · rw [zf 6 (by decide), q6 1 (by decide) (by decide), s0 6 0 (by decide), d61, z53]
        · rw [zf 6 (by decide), q6 2 (by decide) (by decide), s0 6 0 (by decide), d62]
        · rw [zf 6 (by decide), q6 3 (by decide) (by decide), s0 6 0 (by decide), d63]
        · rw [zf 7 (by decide), q7, s0 7 0 (by decide), d7 i a b]
          show _ = Z 34 0 (48 + i)
          rw [z48 i a (by omega), if_pos b]
        · rw [zf 8 (by decide), q8, s0 8 0 (by decide), (d8 i a b).1]
          show _ = Z 34 0 (0 + i)
          rw [(z16 i a (by omega)).1, if_pos b]
        · rw [zf 9 (by decide), q9, s0 9 0 (by decide), (d8 i a b).2.1]
          show _ = Z 34 0 (16 + i)
          rw [(z16 i a (by omega)).2.1, if_pos b]
        · rw [zf 10 (by decide), q10, s0 10 0 (by decide), (d8 i a b).2.2]
          show _ = Z 34 0 (32 + i)
          rw [(z16 i a (by omega)).2.2, if_pos b]
        · rw [zf 9 (by decide), q9, s0 9 0 (by decide)]
          exact h9
        · rw [zf 5 (by decide), q5, s0 5 0 (by decide), d5]
        · have hq := qc c a (by rw [s0 5 0 (by decide), d5]; exact b)
          have hd := dc c a b
          have c12 := zS 12 (4 * 1 + c) (Or.inr ⟨by decide, by omega, by omega⟩)
          have c13 := zS 13 (4 * 1 + c) (Or.inr ⟨by decide, by omega, by omega⟩)
          have c14 := zS 14 (4 * 1 + c) (Or.inr ⟨by decide, by omega, by omega⟩)
          have h12 : ∀ f, 0 ≤ f → f < 9 → Z 12 (4 * 1 + c) f = M1 12 (4 * 0 + c) f := fun f x y => by rw [c12, hq.2.2 f x y, s0 12 _ (by decide)]
          have hz := hcl0 c a b
          unfold CE
          rw [h12 0 (by decide) (by decide), h12 1 (by decide) (by decide), h12 2 (by decide) (by decide), h12 3 (by decide) (by decide), h12 4 (by decide) (by decide), h12 5 (by decide) (by decide), h12 6 (by decide) (by decide), h12 7 (by decide) (by decide), h12 8 (by decide) (by decide), hz 0 (by decide) (by decide), hz 1 (by decide) (by decide), hz 2 (by decide) (by decide), hz 3 (by decide) (by decide), hz 4 (by decide) (by decide), hz 5 (by decide) (by decide), hd.1, hd.2.1, (z36 c a b).1, (z36 c a b).2]
          refine ⟨⟨rfl, rfl⟩, ⟨hd.2.2.1 2 (by decide) (by decide), hd.2.2.1 3 (by decide) (by decide), hd.2.2.1 4 (by decide) (by decide), hd.2.2.1 5 (by decide) (by decide), hd.2.2.1 6 (by decide) (by decide), hd.2.2.1 7 (by decide) (by decide), hd.2.2.1 8 (by decide) (by decide)⟩, fun i x y => ?_⟩
          rw [c13, hq.1, c14, hq.2.1, s0 13 _ (by decide), s0 14 _ (by decide), hz (6 + i) (by omega) (by omega), hz (22 + i) (by omega) (by omega)]
          exact hd.2.2.2 i x y
      have hV : RV (Z 34 0) nd ni nc (Z 36 0) (Z 37 0) (n + 1) := by
        refine ⟨⟨o1, o2, by rw [z52]; exact o4, by rw [z53]; exact o5, fun d a b => ?_, fun i a b => ?_⟩, fun i a b => ?_, o3, fun c a b => ?_⟩
        · show 1 ≤ Z 34 0 (48 + d) ∧ Z 34 0 (48 + d) ≤ 6
          rw [z48 d a (by omega), if_pos b]
          exact o6 d a b
        · show 0 ≤ Z 34 0 (16 + i) ∧ Z 34 0 (16 + i) < nd
          rw [(z16 i a (by omega)).2.1, if_pos b]
          exact (o7 i a b).2.1
        · show (0 ≤ Z 34 0 (0 + i) ∧ Z 34 0 (0 + i) ≤ 99) ∧ 0 ≤ Z 34 0 (32 + i) ∧ Z 34 0 (32 + i) ≤ 999
          rw [(z16 i a (by omega)).1, (z16 i a (by omega)).2.2, if_pos b, if_pos b]
          exact ⟨(o7 i a b).1, (o7 i a b).2.2⟩
        · rw [(z36 c a b).1, (z36 c a b).2]
          exact ⟨(o8 c a b).1, (o8 c a b).2, QI.zero (by have := hK.n0; omega) (hcl0 c a b)⟩
      have hB : BS Z 0 1 := by
        have hB4 : BS M4 0 1 := by
          unfold BS
          rw [hF4 9 1 (by unfold bpP; omega), hF4 7 1 (by unfold bpP; omega), hF4 6 1 (by unfold bpP; omega)]
          exact hbr
        exact hB4.cong (fun k hk => by rw [zo k 1 (by omega) (by omega) (by omega) (by omega) (by omega), yB k 1 (by omega) (by omega)]) (fun k hk => by rw [zo k 0 (by omega) (by omega) (by omega) (by omega) (by omega), yB k 0 (by omega) (by omega)]) (fun q _ _ => by rw [zo 21 q (by decide) (by decide) (by decide) (by decide) (by decide), yB 21 q (by decide) (by decide)]) (by rw [hF4 6 1 (by unfold bpP; omega), q6 3 (by decide) (by decide), s0 6 0 (by decide), d63]; exact o2.2)
      have z18 : Z 33 0 18 = -1 := by rw [k2 18 (by decide) (by decide) (by decide) (by decide) (by decide)]; exact h18
      have z11 : Z 33 0 11 = 0 := by rw [k2 11 (by decide) (by decide) (by decide) (by decide) (by decide)]; exact l11
      unfold KK CU HS
      rw [z2, z3, z5, z6, z7, z18, z1, z15, u_at, u_ne (by decide), u_at, u_ne (by decide), u_at]
      refine ⟨Or.inr rfl, rfl, ?_, rfl, ?_, by omega, by omega, by omega, by omega, hx, by have := hK.n0; omega, fun h => absurd h (by decide), fun _ => ⟨⟨hS, hV⟩, ⟨hx, ⟨rfl, by decide, by decide⟩, fun q a b => by omega⟩, hB⟩⟩
      · unfold TX
        rw [z11, z1, u_ne (by decide), u_ne (by decide), u_at]
        exact ⟨⟨rfl, by decide, by decide⟩, fun q a b => by omega⟩
      · rw [zo 9 0 (by decide) (by decide) (by decide) (by decide) (by decide), y9]
        exact h9
