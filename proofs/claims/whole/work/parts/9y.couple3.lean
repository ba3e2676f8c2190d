theorem ra_c {v w : Int → Int} {N i : Int} (h : AG v w N) (hi : 0 ≤ i ∧ i < N) : ∀ (n : Nat) (o x : Int), 0 ≤ o → o + n ≤ N → ra v i n o x = ra w i n o x
  | 0, _, _, _, _ => rfl
  | n + 1, o, x, h0, h1 => by
    simp only [ra]
    have e : rbf v o i = rbf w o i := by
      unfold rbf
      rw [h o h0 (by omega), h i hi.1 hi.2]
    rw [e]
    exact ra_c h hi n (o + 1) _ (by omega) (by omega)
theorem rf_c {v w : Int → Int} {N p : Int} (h : AG v w N) (hN : 0 ≤ N) : ∀ (n : Nat) (i : Int), 0 ≤ i → i + n ≤ N → rf v N p n i = rf w N p n i
  | 0, _, _, _ => rfl
  | n + 1, i, h0, h1 => by
    simp only [rf]
    rw [ra_c h ⟨h0, by omega⟩ N.toNat 0 0 (by omega) (by omega), rf_c h hN n (i + 1) (by omega) (by omega)]
/-- the class's ranks are the model's -/
theorem rk_ag {v w r0 : Int → Int} {N : Int} (h : AG v w N) (hN : 0 ≤ N) : AG (fun q => rf w N q N.toNat 0) (rk_all v N.toNat 0 r0) N := fun q a b => by
  show rf w N q N.toNat 0 = _
  rw [← rf_c h hN N.toNat 0 (by omega) (by omega)]
  exact rf_rk (rk_RK hN) ⟨a, b⟩
theorem RK.inj {v r : Int → Int} {N : Int} (h : RK v N r) : INJ r N := fun q q' a b c d e => by
  rcases Int.lt_trichotomy q q' with x | x | x
  · have := h.2.2 q q' a x d
    rw [e] at this
    unfold rbf at this
    have := of_decide_eq_true this
    omega
  · exact x
  · have := h.2.2 q' q c x b
    rw [e] at this
    unfold rbf at this
    have := of_decide_eq_true this
    omega
section CPL3
variable {M : bc_M} {s nd ni nc n : Int} {r cap pol : Int → Int}
theorem an_irank (h : SE M 1 r nd ni nc cap pol) (hr : RV r nd ni nc cap pol n) {v : Int} (hv : 0 ≤ v) : (v < ni → rk_all (M 8 1) (M 6 1 3).toNat 0 (M 26 0) v = rf (rPop r) ni v ni.toNat 0 ∧ rf (rPop r) ni v ni.toNat 0 ≠ -1) ∧ (ni ≤ v → rf (rPop r) ni v ni.toNat 0 = -1) := by
  have h2 := hr.1.2.1
  rw [h.1.2.2.2]
  refine ⟨fun a => ?_, fun a => ?_⟩
  · have e := rk_ag (r0 := M 26 0) h.2.1.2.1 (show 0 ≤ ni by omega) v hv a
    have hk := (rk_RK (v := M 8 1) (N := ni) (r := M 26 0) (by omega)).1 v hv a
    simp only at e
    rw [e]
    exact ⟨rfl, by omega⟩
  · rw [← rf_c h.2.1.2.1 (show 0 ≤ ni by omega) ni.toNat 0 (by omega) (by omega)]
    exact rf_out (rk_RK (r := M 26 0) (by omega)) (by omega) a
theorem an_drank (h : SE M 1 r nd ni nc cap pol) (hr : RV r nd ni nc cap pol n) {v : Int} (hv : 0 ≤ v) : (v < nd → rk_all (M 7 1) (M 6 1 2).toNat 0 (M 27 0) v = rf (rFr r) nd v nd.toNat 0 ∧ rf (rFr r) nd v nd.toNat 0 ≠ -1) ∧ (nd ≤ v → rf (rFr r) nd v nd.toNat 0 = -1) := by
  have h2 := hr.1.1
  rw [h.1.2.2.1]
  refine ⟨fun a => ?_, fun a => ?_⟩
  · have e := rk_ag (r0 := M 27 0) h.2.1.1 (show 0 ≤ nd by omega) v hv a
    have hk := (rk_RK (v := M 7 1) (N := nd) (r := M 27 0) (by omega)).1 v hv a
    simp only at e
    rw [e]
    exact ⟨rfl, by omega⟩
  · rw [← rf_c h.2.1.1 (show 0 ≤ nd by omega) nd.toNat 0 (by omega) (by omega)]
    exact rf_out (rk_RK (r := M 27 0) (by omega)) (by omega) a
theorem an_ord (h : SE M 1 r nd ni nc cap pol) (hr : RV r nd ni nc cap pol n) {t0 : Int → Int} : ORD (cpF t0 (fun q => rf (rPop r) ni q ni.toNat 0) 0 ni) (fun t => rf (rFr r) nd t nd.toNat 0) nd ni ∧ AG (cpF t0 (fun q => rf (rPop r) ni q ni.toNat 0) 0 ni) (rk_all (M 8 1) (M 6 1 3).toNat 0 (M 26 0)) ni ∧ AG (fun t => rf (rFr r) nd t nd.toNat 0) (rk_all (M 7 1) (M 6 1 2).toNat 0 (M 27 0)) nd ∧ INJ (rk_all (M 8 1) (M 6 1 3).toNat 0 (M 26 0)) ni := by
  have h1 := hr.1.1
  have h2 := hr.1.2.1
  rw [h.1.2.2.1, h.1.2.2.2]
  have eI : AG (cpF t0 (fun q => rf (rPop r) ni q ni.toNat 0) 0 ni) (rk_all (M 8 1) ni.toNat 0 (M 26 0)) ni := fun q a b => by
    have e := rk_ag (r0 := M 26 0) h.2.1.2.1 (show 0 ≤ ni by omega) q a b
    unfold cpF
    rw [if_pos (by omega), show q - 0 = q by omega]
    exact e
  have eD := rk_ag (r0 := M 27 0) h.2.1.1 (show 0 ≤ nd by omega)
  have kI := rk_RK (v := M 8 1) (N := ni) (r := M 26 0) (by omega)
  have kD := rk_RK (v := M 7 1) (N := nd) (r := M 27 0) (by omega)
  refine ⟨⟨fun q a b => by rw [eI q a b]; exact kI.1 q a b, fun i a b => ?_, fun t a b => by rw [eD t a b]; exact kD.1 t a b⟩, eI, eD, kI.inj⟩
  obtain ⟨q, x, y, z⟩ := kI.2.1 i a b
  exact ⟨q, x, y, by rw [eI q x y]; exact z⟩
/-- the best division of the class is the model's -/
theorem an_tier (h : SE M 1 r nd ni nc cap pol) (hr : RV r nd ni nc cap pol n) {q : Int} (hq : 1 ≤ q ∧ q ≤ nd) (hqn : q ≤ ni) {t0 dk9 g1 bz : Int → Int} {bw bl : Int} : (fbR M 1 q).1 = (fdR (fun dk => sp_WS dk (rFr r) (rPop r) nd ni (r 52) (r 53) 0) (fun dk => sp_S dk (rFr r) nd ni + r 52 * r 53) (cpF t0 (fun q => rf (rPop r) ni q ni.toNat 0) 0 ni) (fun t => rf (rFr r) nd t nd.toNat 0) dk9 q ni g1 bw bl bz).2.1 ∧ AG (fbR M 1 q).2.2 (fdR (fun dk => sp_WS dk (rFr r) (rPop r) nd ni (r 52) (r 53) 0) (fun dk => sp_S dk (rFr r) nd ni + r 52 * r 53) (cpF t0 (fun q => rf (rPop r) ni q ni.toNat 0) 0 ni) (fun t => rf (rFr r) nd t nd.toNat 0) dk9 q ni g1 bw bl bz).2.2.2.1 q := by
  obtain ⟨o1, o2, o3, o4⟩ := an_ord h hr (t0 := t0)
  unfold fbR
  rw [h.1.2.2.1, h.1.2.2.2] at *
  rw [h.1.1, h.1.2.1]
  exact tiers_eq hr.1 h.2.1.1 h.2.1.2.1 o1 o2 o3 hq hqn
theorem an_apply (h : SE M 1 r nd ni nc cap pol) (hr : RV r nd ni nc cap pol n) {q : Int} (hq : 1 ≤ q ∧ q ≤ nd) (hqn : q ≤ ni) {t0 dk9 g1 bz : Int → Int} {bw bl : Int} : AG (atR M q).1 (ma_out (cpF t0 (fun q => rf (rPop r) ni q ni.toNat 0) 0 ni) (fun t => rf (rFr r) nd t nd.toNat 0) (fdR (fun dk => sp_WS dk (rFr r) (rPop r) nd ni (r 52) (r 53) 0) (fun dk => sp_S dk (rFr r) nd ni + r 52 * r 53) (cpF t0 (fun q => rf (rPop r) ni q ni.toNat 0) 0 ni) (fun t => rf (rFr r) nd t nd.toNat 0) dk9 q ni g1 bw bl bz).2.2.2.1 q.toNat 0 0 (rDk r)) ni ∧ (atR M q).2 = mo_mv (ma_out (cpF t0 (fun q => rf (rPop r) ni q ni.toNat 0) 0 ni) (fun t => rf (rFr r) nd t nd.toNat 0) (fdR (fun dk => sp_WS dk (rFr r) (rPop r) nd ni (r 52) (r 53) 0) (fun dk => sp_S dk (rFr r) nd ni + r 52 * r 53) (cpF t0 (fun q => rf (rPop r) ni q ni.toNat 0) 0 ni) (fun t => rf (rFr r) nd t nd.toNat 0) dk9 q ni g1 bw bl bz).2.2.2.1 q.toNat 0 0 (rDk r)) (rDk r) ni.toNat 0 0 := by
  have ht := an_tier h hr hq hqn (t0 := t0) (dk9 := dk9) (g1 := g1) (bz := bz) (bw := bw) (bl := bl)
  obtain ⟨o1, o2, o3, o4⟩ := an_ord h hr (t0 := t0)
  have h1 := hr.1.1
  have hz : SZ q ni (fbR M 1 q).2.2 := by
    unfold fbR
    rw [h.1.2.2.2]
    exact fb_sz (by omega) 455 0 _ _ _ _ _ (sz_first_ok (by omega) hqn) (fun _ => by decide) (fun e => absurd rfl e) (by omega)
  unfold atR
  rw [h.1.2.2.1, h.1.2.2.2] at *
  exact moved_eq hr.1 h.2.1.2.2.1 o1 o4 o2 o3 hq hz ht.2
/-- the plan of the class is the model's -/
theorem an_plan (h : SE M 1 r nd ni nc cap pol) (hr : RV r nd ni nc cap pol n) (hb : BS M 0 1) {c : Int} (hc : 0 ≤ c ∧ c < nc) (hs : 1 ≤ s ∧ s < p2 ni) (h5 : bs_cnt s 16 ≤ 5) {td pn : Int → Int} {pt : Int} : (1 ≤ bs_cnt s 16) ∧ (plR M c s).1 = (ptR (qG (cap c) (pol c) ni (rPop r) (rDk r) (rFr r) (sW (rDk r) (rFr r) nd ni (r 52) (r 53)) (sL (rDk r) (rFr r) nd ni (r 52) (r 53))) ni (bs_cnt s 16).toNat s 0 (rCl r c) (td, (false, pt, pn))).2.2.1 ∧ ∀ q, 0 ≤ q → q < bs_cnt s 16 → (plR M c s).2 q = (ptR (qG (cap c) (pol c) ni (rPop r) (rDk r) (rFr r) (sW (rDk r) (rFr r) nd ni (r 52) (r 53)) (sL (rDk r) (rFr r) nd ni (r 52) (r 53))) ni (bs_cnt s 16).toNat s 0 (rCl r c) (td, (false, pt, pn))).2.2.2 q := by
  have h2 := hr.1.2.1
  have hE := h.2.2.2.2 c hc.1 hc.2
  have hq := (hr.2.2.2 c hc.1 hc.2).2.2
  have hp2 : p2 ni ≤ 65536 := by
    unfold p2
    have := Nat.pow_le_pow_right (n := 2) (by decide) (show ni.toNat ≤ 16 by omega)
    omega
  have hc1 := bs_cnt_pos (s := s) (by omega) (by omega)
  have hsn : bs_cnt s 16 = bs_cnt s ni.toNat := bs_cnt_same 16 ni.toNat (by omega) (fun k a b => by
    unfold bs
    rw [Int.toNat_natCast]
    apply Nat.testBit_lt_two_pow
    have h3 : s.toNat < 2 ^ ni.toNat := by
      have := hs.2
      unfold p2 at this
      omega
    exact Nat.lt_of_lt_of_le h3 (Nat.pow_le_pow_right (by decide) a))
  exact ⟨by omega, plan_eq hr.1 (fun i a b t => sW_rng hr.1 ⟨a, b⟩) (h.hy hr hb) hE hq ⟨by omega, hs.2⟩ hsn ⟨by omega, h5⟩⟩
end CPL3
