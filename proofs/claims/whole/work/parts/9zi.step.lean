/-! a step of the law: think, request, repair, applyTiers -/
theorem SE.cli {M X : bc_M} {nd ni nc : Int} {r r' cap pol : Int → Int} (h : SE M 1 r nd ni nc cap pol) (hnd : nd ≤ 4) (hni : ni ≤ 16) (co : ∀ k, 5 ≤ k → k ≤ 10 → X k 1 = M k 1) (er : ∀ q, 0 ≤ q → q < 54 → r' q = r q) (hc : ∀ c, 0 ≤ c → c < nc → CE X (4 * 1 + c) (cap c) (pol c) (rCl r' c)) : SE X 1 r' nd ni nc cap pol := by
  obtain ⟨⟨e0, e1, e2, e3⟩, ⟨a7, a8, a9, a10⟩, h9, h5, _⟩ := h
  have c6 := co 6 (by decide) (by decide)
  refine ⟨⟨by rw [c6, er 52 (by decide) (by decide)]; exact e0, by rw [c6, er 53 (by decide) (by decide)]; exact e1, by rw [c6]; exact e2, by rw [c6]; exact e3⟩, ⟨fun i a b => ?_, fun i a b => ?_, fun i a b => ?_, fun i a b => ?_⟩, by rw [co 9 (by decide) (by decide)]; exact h9, by rw [co 5 (by decide) (by decide)]; exact h5, hc⟩
  · rw [co 7 (by decide) (by decide), a7 i a b]; exact (er (48 + i) (by omega) (by omega)).symm
  · rw [co 8 (by decide) (by decide), a8 i a b]; exact (er (0 + i) (by omega) (by omega)).symm
  · rw [co 9 (by decide) (by decide), a9 i a b]; exact (er (16 + i) (by omega) (by omega)).symm
  · rw [co 10 (by decide) (by decide), a10 i a b]; exact (er (32 + i) (by omega) (by omega)).symm
theorem RV.cli {nd ni nc n m : Int} {r r' cap pol : Int → Int} (h : RV r nd ni nc cap pol n) (er : ∀ q, 0 ≤ q → q < 54 → r' q = r q) (hc : ∀ c, 0 ≤ c → c < nc → QI (rCl r' c) ni m) : RV r' nd ni nc cap pol m := by
  have hnd := h.1.1
  have hni := h.1.2.1
  have hs := h.1.c (dk' := rDk r') (fr' := rFr r') (fun i a b => (er (16 + i) (by omega) (by omega)).symm) (fun i a b => (er (48 + i) (by omega) (by omega)).symm)
  rw [← er 52 (by decide) (by decide), ← er 53 (by decide) (by decide)] at hs
  refine ⟨hs, fun i a b => ?_, h.2.2.1, fun c a b => ⟨(h.2.2.2 c a b).1, (h.2.2.2 c a b).2.1, hc c a b⟩⟩
  have h2 := h.2.1 i a b
  unfold rPop rBnd at h2 ⊢
  rw [er (0 + i) (by omega) (by omega), er (32 + i) (by omega) (by omega)]
  exact h2
theorem QI.think {g g' : Int → Int} {ni n t : Int} (h : QI g ni n) (e0 : g' 0 = g 0 + t) (eo : ∀ q, 1 ≤ q → q < 38 → g' q = g q) (ht : 0 ≤ t ∧ t ≤ 10000) : QI g' ni (n + 1) := by
  obtain ⟨a0, a1, a3, a4, a5, a6, a7, a8⟩ := h
  unfold QI
  rw [e0, eo 1 (by decide) (by decide), eo 2 (by decide) (by decide), eo 3 (by decide) (by decide), eo 4 (by decide) (by decide), eo 5 (by decide) (by decide)]
  refine ⟨by omega, by omega, by omega, by omega, a5, fun i a b => ?_, a7, fun x y x0 x1 y0 y1 bx b2 hn => ?_⟩
  · rw [eo (6 + i) (by omega) (by omega), eo (22 + i) (by omega) (by omega)]
    have := a6 i a b
    omega
  · rw [eo (22 + x) (by omega) (by omega), eo (22 + y) (by omega) (by omega)]
    exact a8 x y x0 x1 y0 y1 bx b2 hn
theorem CE.think {M X : bc_M} {x cp pl t : Int} {g g' : Int → Int} (h : CE M x cp pl g) (e12 : X 12 x = bc_u (M 12 x) 2 (M 12 x 2 + t)) (e13 : X 13 x = M 13 x) (e14 : X 14 x = M 14 x) (e0 : g' 0 = g 0 + t) (eo : ∀ q, 1 ≤ q → q < 38 → g' q = g q) : CE X x cp pl g' := by
  obtain ⟨⟨c0, c1⟩, ⟨c2, c3, c4, c5, c6, c7, c8⟩, c9⟩ := h
  unfold CE
  rw [e12, e13, e14, e0, eo 1 (by decide) (by decide), eo 2 (by decide) (by decide), eo 3 (by decide) (by decide), eo 4 (by decide) (by decide), eo 5 (by decide) (by decide), u_at, u_ne (by decide), u_ne (by decide), u_ne (by decide), u_ne (by decide), u_ne (by decide), u_ne (by decide), u_ne (by decide), u_ne (by decide), c2]
  refine ⟨⟨c0, c1⟩, ⟨rfl, c3, c4, c5, c6, c7, c8⟩, fun i a b => ?_⟩
  rw [eo (6 + i) (by omega) (by omega), eo (22 + i) (by omega) (by omega)]
  exact c9 i a b
theorem REM.bs {M M1 X : bc_M} {n c : Int} (hK : KK M n) (h1 : M 1 0 3 = 1) (hR : REM M M1) (hX : ∀ k j, k ≠ 51 → ¬ CLP (4 * 1 + c) k j → X k j = M1 k j) : BS X 0 1 := by
  obtain ⟨⟨hS, hV⟩, hH, hB⟩ := hK.cu h1
  have hx := hK.2.2.2.2.2.2.2.2.2.1
  have s1 := hR.s1 hx
  exact hB.cong (fun k hk => by rw [hX k 1 (by omega) (by unfold CLP; omega), s1 k 1 (Or.inl ⟨by omega, rfl⟩)]) (fun k hk => by rw [hX k 0 (by omega) (by unfold CLP; omega), hR.ot hx k 0 (by omega)]) (fun q _ _ => by rw [hX 21 q (by decide) (by unfold CLP; omega), hR.ot hx 21 q (by omega)]) (by rw [hS.1.2.2.2]; exact hK.a6.2)
theorem md_out {fr bnd : Int → Int} {nd ni sg ln : Int} : ∀ (n : Nat) (m : Int) (dk : Int → Int) (q : Int), ni ≤ q → 0 ≤ ni → (md fr bnd nd ni sg ln n m dk).2 q = dk q
  | 0, _, _, _, _, _ => rfl
  | n + 1, m, dk, q, hq, h0 => by
    have e : md fr bnd nd ni sg ln (n + 1) m dk = if ftm fr dk nd (sp_V dk fr bnd nd ni sg ln) ni.toNat 0 < 0 then (m, dk) else md fr bnd nd ni sg ln n (m + 1) (bc_u dk (ftm fr dk nd (sp_V dk fr bnd nd ni sg ln) ni.toNat 0) (sp_fd fr nd (dk (ftm fr dk nd (sp_V dk fr bnd nd ni sg ln) ni.toNat 0)))) := rfl
    rw [e]
    have hr := ftm_rng (fr := fr) (dk := dk) (nd := nd) (s := sp_V dk fr bnd nd ni sg ln) ni.toNat 0
    split
    · rfl
    · rw [md_out n _ _ q hq h0, u_ne (by omega)]
/-- a new division of the items among the disks -/
theorem KK.dk {M M1 X M3 : bc_M} {n : Int} {d : Int → Int} (hK : KK M n) (h1 : M 1 0 3 = 1) (hR : REM M M1) (hX : Fr CHP M1 X) (hD : MD X M3 (cpF (M 34 0) d 16 16)) (co : ∀ k j, STP 1 k j → k ≠ 9 → X k j = M k j) (ha : AG (X 9 1) d (M 33 0 6)) (h9 : ∀ q, 0 ≤ q → q < 16 → 0 ≤ X 9 1 q ∧ X 9 1 q < 10000) (hsv : SV d (rFr (M 34 0)) (M 33 0 5) (M 33 0 6) (M 34 0 52) (M 34 0 53)) (hB : BS X 0 1) : KK M3 (n + 1) := by
  obtain ⟨⟨hS, hV⟩, hH, _⟩ := hK.cu h1
  have hnd := hK.a5
  have hni := hK.a6
  have ro : ∀ q, (q < 16 ∨ 32 ≤ q) → cpF (M 34 0) d 16 16 q = M 34 0 q := fun q hq => by unfold cpF; rw [if_neg (by omega)]
  have ri : AG d (rDk (cpF (M 34 0) d 16 16)) (M 33 0 6) := fun i a b => by
    show d i = cpF (M 34 0) d 16 16 (16 + i)
    unfold cpF
    rw [if_pos (by omega)]
    congr 1
    omega
  have rf : AG (rFr (M 34 0)) (rFr (cpF (M 34 0) d 16 16)) (M 33 0 5) := fun i a b => (ro (48 + i) (by omega)).symm
  have rp : AG (rPop (M 34 0)) (rPop (cpF (M 34 0) d 16 16)) (M 33 0 6) := fun i a b => (ro (0 + i) (by omega)).symm
  have rb : AG (rBnd (M 34 0)) (rBnd (cpF (M 34 0) d 16 16)) (M 33 0 6) := fun i a b => (ro (32 + i) (by omega)).symm
  have c6 := co 6 1 (Or.inl ⟨by decide, rfl⟩) (by decide)
  have r52 := ro 52 (by decide)
  have r53 := ro 53 (by decide)
  have hS2 : SE X 1 (cpF (M 34 0) d 16 16) (M 33 0 5) (M 33 0 6) (M 33 0 7) (M 36 0) (M 37 0) := hS.upd hK.a7.2 (co 5 1 (Or.inl ⟨by decide, rfl⟩) (by decide)) (fun k j hk a b => co k j (Or.inr ⟨hk, by omega, by omega⟩) (by omega)) (fun q a b => ro q (by omega)) ⟨by rw [c6, r52]; exact hS.1.1, by rw [c6, r53]; exact hS.1.2.1, by rw [c6]; exact hS.1.2.2.1, by rw [c6]; exact hS.1.2.2.2⟩ (by rw [co 7 1 (Or.inl ⟨by decide, rfl⟩) (by decide)]; exact fun i a b => (hS.2.1.1 i a b).trans (rf i a b)) (by rw [co 8 1 (Or.inl ⟨by decide, rfl⟩) (by decide)]; exact fun i a b => (hS.2.1.2.1 i a b).trans (rp i a b)) (fun i a b => (ha i a b).trans (ri i a b)) (by rw [co 10 1 (Or.inl ⟨by decide, rfl⟩) (by decide)]; exact fun i a b => (hS.2.1.2.2.2 i a b).trans (rb i a b)) h9
  have hs2 := hsv.c ri rf
  rw [← r52, ← r53] at hs2
  have hV2 : RV (cpF (M 34 0) d 16 16) (M 33 0 5) (M 33 0 6) (M 33 0 7) (M 36 0) (M 37 0) (n + 1) := hV.upd (by omega) hs2 (fun i a b => by
    rw [← rp i a b, ← rb i a b]; exact hV.2.1 i a b) (fun q a b => ro q (by omega))
  exact hK.mod h1 hR hX hD hS2 hV2 hB (by omega)
theorem st_think {G : bc_G} {M : bc_M} {n c t : Int} (h_c : -2147483648 ≤ c ∧ c < 2147483648) (h_t : -2147483648 ≤ t ∧ t < 2147483648) (hK : KK M n) (hn : n ≤ 2800) : bc_Call G yX8_think cX8_think 4 (some .int) 9 3 [vR G 1 0, vI c, vI t] M (AFI csA (fun k M2 => bc_Call G yX9_think cX9_think 3 (some .int) 3 0 [vR G 33 0, vI c, vI t] M2 (MPI n k))) := by
  refine ct_think (n := n) (hl := hK.1) (hI := hK.li) (k1 := fun h0 => ?_) (k2 := fun h1 hb => ?_) (k3 := fun h1 hg M1 hR hL => ?_) h_c h_t
  · refine ⟨1, by simp [csA], ?_⟩
    have g0 : M 33 0 3 = 0 := hK.2.1.trans h0
    exact ct_mThink  (hl := Or.inl g0) (k1 := fun _ => mp1 hK) (k2 := fun q => absurd q (by omega)) (k3 := fun q => absurd q (by omega)) (ha := hK.a2) (hcl := hK.a7)
  · refine ⟨2, by simp [csA], ?_⟩
    obtain ⟨q5, q6, q7⟩ := hK.eqs h1
    have g1 : M 33 0 3 = 1 := hK.2.1.trans h1
    (try simp only [q5, q6, q7] at hb)
    exact ct_mThink  (hl := Or.inr g1) (k1 := fun q => absurd q (by omega)) (k2 := fun _ _ => mp1 hK) (k3 := fun _ q => by exfalso; omega) (ha := hK.a2) (hcl := hK.a7)
  · obtain ⟨q5, q6, q7⟩ := hK.eqs h1
    (try simp only [q5, q6, q7] at hg)
    obtain ⟨⟨hS, hV⟩, hH, hB⟩ := hK.cu h1
    have hx := hK.2.2.2.2.2.2.2.2.2.1
    have s1 := hR.s1 hx
    have hY : Fr CHP M1 (bc_up M1 12 (4 * 1 + c) 2 (M1 12 (4 * 1 + c) 2 + t)) := Fr.up (Or.inl (Or.inr ⟨by decide, by omega, by have := hK.a7; omega⟩))
    refine ⟨_, rfl, KX hK h1 hR hY (C := fun M2 => bc_Call G yX9_think cX9_think 3 (some .int) 3 0 [vR G 33 0, vI c, vI t] M2 (MPI n 0)) (fun X hX eX fo hx5 ms => ?_)⟩
    obtain ⟨x33, x34, x35, x36, x37⟩ := hx5
    have l3 : X 33 0 3 = 1 := by rw [x33]; exact hK.2.1.trans h1
    have eY : ∀ k j, k ≠ 51 → ¬ CLP (4 * 1 + c) k j → X k j = M1 k j := fun k j hk h8 => by
      rw [eX k j hk]
      by_cases e : k = 12
      · subst e; rw [up_jne (fun e => h8 ⟨Or.inl rfl, e⟩)]
      · rw [up_kne e]
    have s12 := s1 12 (4 * 1 + c) (Or.inr ⟨by decide, by omega, by have := hK.a7; omega⟩)
    have v12 : X 12 (4 * 1 + c) = bc_u (M 12 (4 * 1 + c)) 2 (M 12 (4 * 1 + c) 2 + t) := by rw [eX 12 _ (by decide), up_at, s12]
    have v13 : X 13 (4 * 1 + c) = M 13 (4 * 1 + c) := by rw [eX 13 _ (by decide), up_kne (by decide), s1 13 _ (Or.inr ⟨by decide, by omega, by have := hK.a7; omega⟩)]
    have v14 : X 14 (4 * 1 + c) = M 14 (4 * 1 + c) := by rw [eX 14 _ (by decide), up_kne (by decide), s1 14 _ (Or.inr ⟨by decide, by omega, by have := hK.a7; omega⟩)]
    have g0 : rCl (bc_u (M 34 0) (54 + 38 * c + 0) (M 34 0 (54 + 38 * c + 0) + t)) c 0 = rCl (M 34 0) c 0 + t := by
      show bc_u (M 34 0) (54 + 38 * c + 0) (M 34 0 (54 + 38 * c + 0) + t) (54 + 38 * c + 0) = M 34 0 (54 + 38 * c + 0) + t
      rw [u_at]
    have gq : ∀ q, 1 ≤ q → q < 38 → rCl (bc_u (M 34 0) (54 + 38 * c + 0) (M 34 0 (54 + 38 * c + 0) + t)) c q = rCl (M 34 0) c q := fun q a b => u_ne (by omega)
    have hnd := hK.a5
    have hni := hK.a6
    have hn7 := hK.a7
    have co : ∀ k j, STP 1 k j → ¬ CLP (4 * 1 + c) k j → X k j = M k j := fun k j hk h8 => by rw [eY k j (by unfold STP at hk; omega) h8, s1 k j hk]
    have hBX : BS X 0 1 := REM.bs hK h1 hR eY
    have er : ∀ q, 0 ≤ q → q < 54 → bc_u (M 34 0) (54 + 38 * c + 0) (M 34 0 (54 + 38 * c + 0) + t) q = M 34 0 q := fun q a b => u_ne (by omega)
    have eo : ∀ c', 0 ≤ c' → c' < M 33 0 7 → c' ≠ c → AG (rCl (M 34 0) c') (rCl (bc_u (M 34 0) (54 + 38 * c + 0) (M 34 0 (54 + 38 * c + 0) + t)) c') 38 := fun c' a b hne q x y => by
      show M 34 0 (54 + 38 * c' + q) = (bc_u (M 34 0) (54 + 38 * c + 0) (M 34 0 (54 + 38 * c + 0) + t)) (54 + 38 * c' + q)
      rw [u_ne (by omega)]
    have hS2 : SE X 1 (bc_u (M 34 0) (54 + 38 * c + 0) (M 34 0 (54 + 38 * c + 0) + t)) (M 33 0 5) (M 33 0 6) (M 33 0 7) (M 36 0) (M 37 0) := hS.cli hnd.2 hni.2 (fun k a b => co k 1 (Or.inl ⟨by omega, rfl⟩) (by unfold CLP; omega)) er (fun c' a b => by
      by_cases hne : c' = c
      · subst hne
        exact (hS.2.2.2.2 c' a b).think v12 v13 v14 g0 gq
      · exact (hS.2.2.2.2 c' a b).c (fun f _ _ => by rw [co 12 (4 * 1 + c') (Or.inr ⟨by decide, by omega, by omega⟩) (by unfold CLP; omega)]) (co 13 (4 * 1 + c') (Or.inr ⟨by decide, by omega, by omega⟩) (by unfold CLP; omega)) (co 14 (4 * 1 + c') (Or.inr ⟨by decide, by omega, by omega⟩) (by unfold CLP; omega)) (eo c' a b hne))
    have hV2 : RV (bc_u (M 34 0) (54 + 38 * c + 0) (M 34 0 (54 + 38 * c + 0) + t)) (M 33 0 5) (M 33 0 6) (M 33 0 7) (M 36 0) (M 37 0) (n + 1) := hV.cli er (fun c' a b => by
      by_cases hne : c' = c
      · subst hne
        exact (hV.2.2.2 c' a b).2.2.think g0 gq (by omega)
      · exact (hV.2.2.2 c' a b).2.2.c (eo c' a b hne) (by omega))
    have em : mrM (bc_up X 33 0 4 0) 34 0 (54 + 38 * c + 0) = M 34 0 (54 + 38 * c + 0) := by rw [mrM_o (by decide) (by decide), up_kne (by decide), x34]
    have hD : MD X (bc_up (mrM (bc_up X 33 0 4 0)) 34 0 (54 + 38 * c + 0) (mrM (bc_up X 33 0 4 0) 34 0 (54 + 38 * c + 0) + t)) (bc_u (M 34 0) (54 + 38 * c + 0) (M 34 0 (54 + 38 * c + 0) + t)) := by
      have := (MD.b (X := X)).u (p := 54 + 38 * c + 0) (v := mrM (bc_up X 33 0 4 0) 34 0 (54 + 38 * c + 0) + t)
      rw [x34] at this
      rw [em] at this ⊢
      exact this
    exact ct_mThink  (hl := Or.inr l3) (k1 := fun q => absurd q (by omega)) (k2 := fun _ q => by (try simp only [x33] at q); exfalso; omega) (k3 := fun _ _ => mpm hD (fo.trans (congrArg w32 (by rw [em, s12]; exact congrArg (· + t) (hS.2.2.2.2 c (by omega) (by omega)).2.1.1))) (hK.mod h1 hR hX hD hS2 hV2 hBX (by omega))) (ha := by rw [x33]; exact hK.a2) (hcl := by rw [x33]; exact hK.a7)
theorem st_request {G : bc_G} {M : bc_M} {n c i : Int} (h_c : -2147483648 ≤ c ∧ c < 2147483648) (h_i : -2147483648 ≤ i ∧ i < 2147483648) (hK : KK M n) (hn : n ≤ 2800) : bc_Call G yX8_request cX8_request 3 (some .int) 9 3 [vR G 1 0, vI c, vI i] M (AFI csA (fun k M2 => bc_Call G yX9_request cX9_request 3 (some .int) 12 0 [vR G 33 0, vI c, vI i] M2 (MPI n k))) := by
  refine ct_request (n := n) (hl := hK.1) (hI := hK.li) (k1 := fun h0 => ?_) (k2 := fun h1 hb => ?_) (k3 := fun h1 hg M1 hR hL => ?_) h_c h_i (hn9 := ⟨hK.n0, by omega⟩)
  · refine ⟨1, by simp [csA], ?_⟩
    have g0 : M 33 0 3 = 0 := hK.2.1.trans h0
    exact ct_mRequest (dk := rDk (M 34 0)) (fr := rFr (M 34 0)) (pop := rPop (M 34 0)) (bnd := rBnd (M 34 0)) (nd := M 33 0 5) (ni := M 33 0 6) (sg := M 34 0 52) (ln := M 34 0 53) (hI := fun q => absurd q (by omega)) (hl := Or.inl g0) (k1 := fun _ => mp1 hK) (k2 := fun q => absurd q (by omega)) (k3 := fun q => absurd q (by omega)) (ha := hK.a2) (hit := hK.a6) (hdi := hK.a5) (hcl := hK.a7) (n := n) (hn := ⟨hK.n0, by omega⟩) (hcn := hK.cn)
  · refine ⟨2, by simp [csA], ?_⟩
    obtain ⟨q5, q6, q7⟩ := hK.eqs h1
    have g1 : M 33 0 3 = 1 := hK.2.1.trans h1
    (try simp only [q5, q6, q7] at hb)
    exact ct_mRequest (dk := rDk (M 34 0)) (fr := rFr (M 34 0)) (pop := rPop (M 34 0)) (bnd := rBnd (M 34 0)) (nd := M 33 0 5) (ni := M 33 0 6) (sg := M 34 0 52) (ln := M 34 0 53) (hI := fun _ => hK.ms g1) (hl := Or.inr g1) (k1 := fun q => absurd q (by omega)) (k2 := fun _ _ => mp1 hK) (k3 := fun _ q => by exfalso; omega) (ha := hK.a2) (hit := hK.a6) (hdi := hK.a5) (hcl := hK.a7) (n := n) (hn := ⟨hK.n0, by omega⟩) (hcn := hK.cn)
  · obtain ⟨q5, q6, q7⟩ := hK.eqs h1
    (try simp only [q5, q6, q7] at hg)
    obtain ⟨⟨hS, hV⟩, hH, hB⟩ := hK.cu h1
    have hx := hK.2.2.2.2.2.2.2.2.2.1
    have s1 := hR.s1 hx
    have hn7 := hK.a7
    have hY : Fr CHP M1 (askM M1 (4 * 1 + c) 1 0 i) := askM_fr.mono (fun k j q => Or.inl (Or.inr ⟨q.1, by have := q.2; omega, by have := q.2; omega⟩))
    refine ⟨_, rfl, KX hK h1 hR hY (C := fun M2 => bc_Call G yX9_request cX9_request 3 (some .int) 12 0 [vR G 33 0, vI c, vI i] M2 (MPI n 0)) (fun X hX eX fo hx5 ms => ?_)⟩
    obtain ⟨x33, x34, x35, x36, x37⟩ := hx5
    have l3 : X 33 0 3 = 1 := by rw [x33]; exact hK.2.1.trans h1
    have eY : ∀ k j, k ≠ 51 → ¬ CLP (4 * 1 + c) k j → X k j = M1 k j := fun k j hk h8 => by rw [eX k j hk, askM_fr k j h8]
    have hS1 : SE M1 1 (M 34 0) (M 33 0 5) (M 33 0 6) (M 33 0 7) (M 36 0) (M 37 0) := hS.c hV (stEq.rf (hS.nc hV) s1) AG.rf AG.rf AG.rf
    have hask := ask_h (i := i) (hS1.hy hV hL.2.1) (hS1.2.2.2.2 c (by omega) (by omega)) (hV.2.2.2 c (by omega) (by omega)).2.2 (by omega)
    have gin : AG (qG (M 36 0 c) (M 37 0 c) (M 33 0 6) (rPop (M 34 0)) (rDk (M 34 0)) (rFr (M 34 0)) (sW (rDk (M 34 0)) (rFr (M 34 0)) (M 33 0 5) (M 33 0 6) (M 34 0 52) (M 34 0 53)) (sL (rDk (M 34 0)) (rFr (M 34 0)) (M 33 0 5) (M 33 0 6) (M 34 0 52) (M 34 0 53)) (rCl (M 34 0) c) i) (rCl (cpF (M 34 0) (qG (M 36 0 c) (M 37 0 c) (M 33 0 6) (rPop (M 34 0)) (rDk (M 34 0)) (rFr (M 34 0)) (sW (rDk (M 34 0)) (rFr (M 34 0)) (M 33 0 5) (M 33 0 6) (M 34 0 52) (M 34 0 53)) (sL (rDk (M 34 0)) (rFr (M 34 0)) (M 33 0 5) (M 33 0 6) (M 34 0 52) (M 34 0 53)) (rCl (M 34 0) c) i) (54 + 38 * c) 38) c) 38 := fun q a b => by
      show qG (M 36 0 c) (M 37 0 c) (M 33 0 6) (rPop (M 34 0)) (rDk (M 34 0)) (rFr (M 34 0)) (sW (rDk (M 34 0)) (rFr (M 34 0)) (M 33 0 5) (M 33 0 6) (M 34 0 52) (M 34 0 53)) (sL (rDk (M 34 0)) (rFr (M 34 0)) (M 33 0 5) (M 33 0 6) (M 34 0 52) (M 34 0 53)) (rCl (M 34 0) c) i q = cpF (M 34 0) (qG (M 36 0 c) (M 37 0 c) (M 33 0 6) (rPop (M 34 0)) (rDk (M 34 0)) (rFr (M 34 0)) (sW (rDk (M 34 0)) (rFr (M 34 0)) (M 33 0 5) (M 33 0 6) (M 34 0 52) (M 34 0 53)) (sL (rDk (M 34 0)) (rFr (M 34 0)) (M 33 0 5) (M 33 0 6) (M 34 0 52) (M 34 0 53)) (rCl (M 34 0) c) i) (54 + 38 * c) 38 (54 + 38 * c + q)
      unfold cpF
      rw [if_pos (by omega)]
      congr 1
      omega
    have hnd := hK.a5
    have hni := hK.a6
    have co : ∀ k j, STP 1 k j → ¬ CLP (4 * 1 + c) k j → X k j = M k j := fun k j hk h8 => by rw [eY k j (by unfold STP at hk; omega) h8, s1 k j hk]
    have hBX : BS X 0 1 := REM.bs hK h1 hR eY
    have er : ∀ q, 0 ≤ q → q < 54 → cpF (M 34 0) (qG (M 36 0 c) (M 37 0 c) (M 33 0 6) (rPop (M 34 0)) (rDk (M 34 0)) (rFr (M 34 0)) (sW (rDk (M 34 0)) (rFr (M 34 0)) (M 33 0 5) (M 33 0 6) (M 34 0 52) (M 34 0 53)) (sL (rDk (M 34 0)) (rFr (M 34 0)) (M 33 0 5) (M 33 0 6) (M 34 0 52) (M 34 0 53)) (rCl (M 34 0) c) i) (54 + 38 * c) 38 q = M 34 0 q := fun q a b => by unfold cpF; rw [if_neg (by omega)]
    have eo : ∀ c', 0 ≤ c' → c' < M 33 0 7 → c' ≠ c → AG (rCl (M 34 0) c') (rCl (cpF (M 34 0) (qG (M 36 0 c) (M 37 0 c) (M 33 0 6) (rPop (M 34 0)) (rDk (M 34 0)) (rFr (M 34 0)) (sW (rDk (M 34 0)) (rFr (M 34 0)) (M 33 0 5) (M 33 0 6) (M 34 0 52) (M 34 0 53)) (sL (rDk (M 34 0)) (rFr (M 34 0)) (M 33 0 5) (M 33 0 6) (M 34 0 52) (M 34 0 53)) (rCl (M 34 0) c) i) (54 + 38 * c) 38) c') 38 := fun c' a b hne q x y => by
      show M 34 0 (54 + 38 * c' + q) = (cpF (M 34 0) (qG (M 36 0 c) (M 37 0 c) (M 33 0 6) (rPop (M 34 0)) (rDk (M 34 0)) (rFr (M 34 0)) (sW (rDk (M 34 0)) (rFr (M 34 0)) (M 33 0 5) (M 33 0 6) (M 34 0 52) (M 34 0 53)) (sL (rDk (M 34 0)) (rFr (M 34 0)) (M 33 0 5) (M 33 0 6) (M 34 0 52) (M 34 0 53)) (rCl (M 34 0) c) i) (54 + 38 * c) 38) (54 + 38 * c' + q)
      unfold cpF; rw [if_neg (by omega)]
    have hS2 : SE X 1 (cpF (M 34 0) (qG (M 36 0 c) (M 37 0 c) (M 33 0 6) (rPop (M 34 0)) (rDk (M 34 0)) (rFr (M 34 0)) (sW (rDk (M 34 0)) (rFr (M 34 0)) (M 33 0 5) (M 33 0 6) (M 34 0 52) (M 34 0 53)) (sL (rDk (M 34 0)) (rFr (M 34 0)) (M 33 0 5) (M 33 0 6) (M 34 0 52) (M 34 0 53)) (rCl (M 34 0) c) i) (54 + 38 * c) 38) (M 33 0 5) (M 33 0 6) (M 33 0 7) (M 36 0) (M 37 0) := hS.cli hnd.2 hni.2 (fun k a b => co k 1 (Or.inl ⟨by omega, rfl⟩) (by unfold CLP; omega)) er (fun c' a b => by
      by_cases hne : c' = c
      · subst hne
        exact hask.1.c (fun f _ _ => by rw [eX 12 _ (by decide)]) (eX 13 _ (by decide)) (eX 14 _ (by decide)) gin
      · exact (hS.2.2.2.2 c' a b).c (fun f _ _ => by rw [co 12 (4 * 1 + c') (Or.inr ⟨by decide, by omega, by omega⟩) (by unfold CLP; omega)]) (co 13 (4 * 1 + c') (Or.inr ⟨by decide, by omega, by omega⟩) (by unfold CLP; omega)) (co 14 (4 * 1 + c') (Or.inr ⟨by decide, by omega, by omega⟩) (by unfold CLP; omega)) (eo c' a b hne))
    have hV2 : RV (cpF (M 34 0) (qG (M 36 0 c) (M 37 0 c) (M 33 0 6) (rPop (M 34 0)) (rDk (M 34 0)) (rFr (M 34 0)) (sW (rDk (M 34 0)) (rFr (M 34 0)) (M 33 0 5) (M 33 0 6) (M 34 0 52) (M 34 0 53)) (sL (rDk (M 34 0)) (rFr (M 34 0)) (M 33 0 5) (M 33 0 6) (M 34 0 52) (M 34 0 53)) (rCl (M 34 0) c) i) (54 + 38 * c) 38) (M 33 0 5) (M 33 0 6) (M 33 0 7) (M 36 0) (M 37 0) (n + 1) := hV.cli er (fun c' a b => by
      by_cases hne : c' = c
      · subst hne
        exact (QI.st hV.1 (hV.2.2.2 c' a b).2.2 (by omega) (sW_rng hV.1 (by omega)).1 (sW_rng hV.1 (by omega)).2).c gin (Int.le_refl _)
      · exact (hV.2.2.2 c' a b).2.2.c (eo c' a b hne) (by omega))
    have em : mc X c = rCl (M 34 0) c := by funext w; unfold mc rCl; rw [x34]
    have cn2 : ∀ c, 0 ≤ c → c < X 33 0 7 → (0 ≤ X 36 0 c ∧ X 36 0 c ≤ 4) ∧ (0 ≤ X 37 0 c ∧ X 37 0 c ≤ 2) ∧ QI (mc X c) (M 33 0 6) n := by
      rw [x33, x36, x37]
      intro c' a b
      have := hK.cn c' a b
      unfold mc at this ⊢
      rw [x34]
      exact this
    exact ct_mRequest (dk := rDk (M 34 0)) (fr := rFr (M 34 0)) (pop := rPop (M 34 0)) (bnd := rBnd (M 34 0)) (nd := M 33 0 5) (ni := M 33 0 6) (sg := M 34 0 52) (ln := M 34 0 53) (hI := fun _ => ms) (hl := Or.inr l3) (k1 := fun q => absurd q (by omega)) (k2 := fun _ q => by (try simp only [x33] at q); exfalso; omega) (k3 := fun _ _ N1 M3 hLY hRQ => by
      have hD : MD X M3 (cpF (M 34 0) (qG (M 36 0 c) (M 37 0 c) (M 33 0 6) (rPop (M 34 0)) (rDk (M 34 0)) (rFr (M 34 0)) (sW (rDk (M 34 0)) (rFr (M 34 0)) (M 33 0 5) (M 33 0 6) (M 34 0 52) (M 34 0 53)) (sL (rDk (M 34 0)) (rFr (M 34 0)) (M 33 0 5) (M 33 0 6) (M 34 0 52) (M 34 0 53)) (rCl (M 34 0) c) i) (54 + 38 * c) 38) := by
        have := ((MD.b (X := X)).ly hLY).rq hRQ
        rw [x34, x36, x37, em] at this
        exact this
      rw [em]
      exact mpm hD (fo.trans (congrArg w32 hask.2)) (hK.mod h1 hR hX hD hS2 hV2 hBX (by omega))) (ha := by rw [x33]; exact hK.a2) (hit := by rw [x33]; exact hK.a6) (hdi := by rw [x33]; exact hK.a5) (hcl := by rw [x33]; exact hK.a7) (n := n) (hn := ⟨hK.n0, by omega⟩) (hcn := cn2)
theorem st_repair {G : bc_G} {M : bc_M} {n : Int} (hK : KK M n) (hn : n ≤ 2800) : bc_Call G yX8_repair cX8_repair 1 (some .int) 9 1 [vR G 1 0] M (AFI csS (fun k M2 => bc_Call G yX9_repair cX9_repair 1 (some .int) 13 0 [vR G 33 0] M2 (MPI n k))) := by
  refine ct_repair (n := n) (hl := hK.1) (hI := hK.li) (k1 := fun h0 => ?_) (k3 := fun h1 M1 hR hL M2 hF h9 hsv hbr => ?_) 
  · refine ⟨1, by simp [csS], ?_⟩
    have g0 : M 33 0 3 = 0 := hK.2.1.trans h0
    exact ct_mRepair (dk := rDk (M 34 0)) (fr := rFr (M 34 0)) (pop := rPop (M 34 0)) (bnd := rBnd (M 34 0)) (nd := M 33 0 5) (ni := M 33 0 6) (sg := M 34 0 52) (ln := M 34 0 53) (hI := fun q => absurd q (by omega)) (hl := Or.inl g0) (k1 := fun _ => mp1 hK) (k3 := fun q => absurd q (by omega)) (ha := hK.a2) (hit := hK.a6) (hdi := hK.a5) (hcl := hK.a7)
  · obtain ⟨q5, q6, q7⟩ := hK.eqs h1
    (try simp only [q5, q6, q7] at hg)
    obtain ⟨⟨hS, hV⟩, hH, hB⟩ := hK.cu h1
    have hx := hK.2.2.2.2.2.2.2.2.2.1
    have s1 := hR.s1 hx
    have hY : Fr CHP M1 M2 := hF.mono (fun k j q => q.elim (fun e => Or.inl (Or.inl ⟨by omega, e.2⟩)) (fun e => Or.inr (Or.inl e)))
    refine ⟨_, rfl, KX hK h1 hR hY (C := fun M2 => bc_Call G yX9_repair cX9_repair 1 (some .int) 13 0 [vR G 33 0] M2 (MPI n 0)) (fun X hX eX fo hx5 ms => ?_)⟩
    obtain ⟨x33, x34, x35, x36, x37⟩ := hx5
    have l3 : X 33 0 3 = 1 := by rw [x33]; exact hK.2.1.trans h1
    have hS1 : SE M1 1 (M 34 0) (M 33 0 5) (M 33 0 6) (M 33 0 7) (M 36 0) (M 37 0) := hS.c hV (stEq.rf (hS.nc hV) s1) AG.rf AG.rf AG.rf
    have hmd := an_md hS1 hV
    have co : ∀ k j, STP 1 k j → k ≠ 9 → X k j = M k j := fun k j hk h8 => by rw [eX k j (by unfold STP at hk; omega), hF k j (by unfold STP at hk; unfold mdP bpP; omega), s1 k j hk]
    have x9 : X 9 1 = (mdR M1 1).2 := by rw [eX 9 1 (by decide), h9]
    have e1 : ∀ k, (k = 6 ∨ k = 7) → M2 k 1 = M1 k 1 := fun k hk => hF k 1 (by unfold mdP bpP; omega)
    have hB2 : BS M2 0 1 := by
      unfold BS
      rw [h9, e1 6 (by decide), e1 7 (by decide)]
      exact hbr
    have hni := hK.a6
    have hBX : BS X 0 1 := hB2.cong (fun k hk => eX k 1 (by omega)) (fun k hk => eX k 0 (by omega)) (fun q _ _ => eX 21 q (by decide)) (by rw [e1 6 (by decide), hS1.1.2.2.2]; exact hK.a6.2)
    exact ct_mRepair (dk := rDk (M 34 0)) (fr := rFr (M 34 0)) (pop := rPop (M 34 0)) (bnd := rBnd (M 34 0)) (nd := M 33 0 5) (ni := M 33 0 6) (sg := M 34 0 52) (ln := M 34 0 53) (hI := fun _ => ms) (hl := Or.inr l3) (k1 := fun q => absurd q (by omega)) (k3 := fun _ M3 hLD => by
      have hD := (MD.b (X := X)).ld hLD
      rw [x34] at hD
      refine mpm hD (fo.trans (congrArg w32 hmd.1)) (hK.dk h1 hR hX hD co (by rw [x9]; exact hmd.2.1) (fun q a b => ?_) hmd.2.2 hBX)
      rw [x9]
      by_cases hq : q < M 33 0 6
      · have := hmd.2.2.2.2.2.2.2 q a hq
        have h8 := hmd.2.1 q a hq
        rw [h8]
        have := hK.a5
        omega
      · have e : (mdR M1 1).2 q = M1 9 1 q := by
          unfold mdR
          exact md_out 60 0 _ q (by rw [hS1.1.2.2.2]; omega) (by rw [hS1.1.2.2.2]; omega)
        rw [e]
        exact hS1.2.2.1 q a b) (ha := by rw [x33]; exact hK.a2) (hit := by rw [x33]; exact hK.a6) (hdi := by rw [x33]; exact hK.a5) (hcl := by rw [x33]; exact hK.a7)
theorem st_applyTiers {G : bc_G} {M : bc_M} {n q : Int} (h_q : -2147483648 ≤ q ∧ q < 2147483648) (hK : KK M n) (hn : n ≤ 2800) : bc_Call G yX8_applyTiers cX8_applyTiers 3 (some .int) 9 2 [vR G 1 0, vI q] M (AFI csA (fun k M2 => bc_Call G yX9_applyTiers cX9_applyTiers 4 (some .int) 16 0 [vR G 33 0, vI q] M2 (MPI n k))) := by
  refine ct_applyTiers (n := n) (hl := hK.1) (hI := hK.li) (k1 := fun h0 => ?_) (k2 := fun h1 hb => ?_) (k3a := fun h1 hg hlt => ?_) (k3b := fun h1 hg hlt N1 N2 N3 hDV hL1 hR hL2 hF hsv hbr => ?_) h_q
  · refine ⟨1, by simp [csA], ?_⟩
    have g0 : M 33 0 3 = 0 := hK.2.1.trans h0
    exact ct_mApplyTiers (dk := rDk (M 34 0)) (fr := rFr (M 34 0)) (pop := rPop (M 34 0)) (bnd := rBnd (M 34 0)) (nd := M 33 0 5) (ni := M 33 0 6) (sg := M 34 0 52) (ln := M 34 0 53) (hI := fun q => absurd q (by omega)) (hl := Or.inl g0) (k1 := fun _ => mp1 hK) (k2 := fun q => absurd q (by omega)) (k3 := fun q => absurd q (by omega)) (k3a := fun q => absurd q (by omega)) (ha := hK.a2) (hit := hK.a6) (hdi := hK.a5) (hcl := hK.a7)
  · refine ⟨2, by simp [csA], ?_⟩
    obtain ⟨q5, q6, q7⟩ := hK.eqs h1
    have g1 : M 33 0 3 = 1 := hK.2.1.trans h1
    (try simp only [q5, q6, q7] at hb)
    exact ct_mApplyTiers (dk := rDk (M 34 0)) (fr := rFr (M 34 0)) (pop := rPop (M 34 0)) (bnd := rBnd (M 34 0)) (nd := M 33 0 5) (ni := M 33 0 6) (sg := M 34 0 52) (ln := M 34 0 53) (hI := fun _ => hK.ms g1) (hl := Or.inr g1) (k1 := fun q => absurd q (by omega)) (k2 := fun _ _ => mp1 hK) (k3 := fun _ q => by exfalso; omega) (k3a := fun _ q => by exfalso; omega) (ha := hK.a2) (hit := hK.a6) (hdi := hK.a5) (hcl := hK.a7)
  · obtain ⟨q5, q6, q7⟩ := hK.eqs h1
    (try simp only [q5, q6, q7] at hg)
    rw [q6] at hlt
    refine ⟨_, rfl, KQ hK h1 KE.rf (C := fun M2 => bc_Call G yX9_applyTiers cX9_applyTiers 4 (some .int) 16 0 [vR G 33 0, vI q] M2 (MPI n 0)) (fun M2 K2 ms l3 hf h34 fo => ?_)⟩
    obtain ⟨f5, f6, f7⟩ := hf
    exact ct_mApplyTiers (dk := rDk (M 34 0)) (fr := rFr (M 34 0)) (pop := rPop (M 34 0)) (bnd := rBnd (M 34 0)) (nd := M 33 0 5) (ni := M 33 0 6) (sg := M 34 0 52) (ln := M 34 0 53) (hI := fun _ => ms) (hl := Or.inr l3) (k1 := fun q => absurd q (by omega)) (k2 := fun _ q => by (try simp only [f5, f6, f7] at q); exfalso; omega) (k3 := fun _ _ q => by exfalso; omega) (k3a := fun _ _ _ => mpu K2 fo) (ha := K2.a2) (hit := K2.a6) (hdi := K2.a5) (hcl := K2.a7)
  · obtain ⟨q5, q6, q7⟩ := hK.eqs h1
    (try simp only [q5, q6, q7] at hg)
    rw [q6] at hlt
    obtain ⟨⟨hS, hV⟩, hH, hB⟩ := hK.cu h1
    have kE := KE.fdv hDV.1
    have K1 := hK.e kE (Int.le_refl _)
    have zz : ∀ k j, ¬ dvP k j → N1 k j = M k j := hDV.1
    have z33 : N1 33 0 = M 33 0 := zz 33 0 (by unfold dvP trP bpP; omega)
    have z34 : N1 34 0 = M 34 0 := zz 34 0 (by unfold dvP trP bpP; omega)
    have h1' : N1 1 0 3 = 1 := by rw [zz 1 0 (by unfold dvP trP bpP; omega)]; exact h1
    obtain ⟨⟨hS1, hV1⟩, hH1, hB1⟩ := K1.cu h1'
    have hx := K1.2.2.2.2.2.2.2.2.2.1
    have s1 := hR.s1 hx
    have hY : Fr CHP N2 N3 := Fr.tr (M1 := bc_row N2 9 1 (atR M q).1) (fun k j hk => by
      by_cases e : k = 9
      · subst e
        rw [row_jne (fun e => hk (Or.inl (Or.inl ⟨by decide, e⟩)))]
      · rw [row_kne e]) (hF.mono (fun k j q => Or.inr (Or.inl q)))
    refine ⟨_, rfl, KX K1 h1' hR hY (C := fun M2 => bc_Call G yX9_applyTiers cX9_applyTiers 4 (some .int) 16 0 [vR G 33 0, vI q] M2 (MPI n 0)) (fun X hX eX fo hx5 ms => ?_)⟩
    obtain ⟨x33, x34, x35, x36, x37⟩ := hx5
    rw [z33, z34] at ms
    have l3 : X 33 0 3 = 1 := by rw [x33]; exact K1.2.1.trans h1'
    have co : ∀ k j, STP 1 k j → k ≠ 9 → X k j = N1 k j := fun k j hk h8 => by rw [eX k j (by unfold STP at hk; omega), hF k j (by unfold STP at hk; unfold bpP; omega), row_kne h8, s1 k j hk]
    have x9 : X 9 1 = (atR M q).1 := by rw [eX 9 1 (by decide), hF 9 1 (by unfold bpP; omega), row_at]
    have c6 : ∀ k, (k = 6 ∨ k = 7) → N3 k 1 = N2 k 1 := fun k hk => by rw [hF k 1 (by unfold bpP; omega), row_kne (by omega)]
    have hB2 : BS N3 0 1 := by
      unfold BS
      rw [hF 9 1 (by unfold bpP; omega), row_at, c6 6 (by decide), c6 7 (by decide)]
      exact hbr
    have n26 : ∀ k, (k = 6 ∨ k = 7) → N2 k 1 = N1 k 1 := fun k hk => s1 k 1 (Or.inl ⟨by omega, rfl⟩)
    have hBX : BS X 0 1 := hB2.cong (fun k hk => eX k 1 (by omega)) (fun k hk => eX k 0 (by omega)) (fun q _ _ => eX 21 q (by decide)) (by rw [c6 6 (by decide), n26 6 (by decide), hS1.1.2.2.2]; exact K1.a6.2)
    have hsv1 : SV (atR M q).1 (rFr (M 34 0)) (M 33 0 5) (M 33 0 6) (M 34 0 52) (M 34 0 53) := by
      have := hsv
      rw [n26 6 (by decide), n26 7 (by decide), hS1.1.1, hS1.1.2.1, hS1.1.2.2.1, hS1.1.2.2.2] at this
      have := this.c AG.rf hS1.2.1.1
      rw [z34, z33] at this
      exact this
    have hdd : ∀ x, 0 ≤ x → x < 0 + (q.toNat : Int) → 0 ≤ rk_all (M 7 1) (M 6 1 2).toNat 0 (M 27 0) x ∧ rk_all (M 7 1) (M 6 1 2).toNat 0 (M 27 0) x < 4 := fun x a b => by
      have hr := rk_all_rng (v := M 7 1) (M 6 1 2).toNat 0 (M 27 0) (by omega) (fun q a b => by omega) x a (by have := hK.a5; omega)
      have := hK.a5
      omega
    have h9 : ∀ x, 0 ≤ x → x < 16 → 0 ≤ X 9 1 x ∧ X 9 1 x < 10000 := by
      rw [x9]
      unfold atR
      exact as_out_dk9 q.toNat 0 0 (M 9 1) 0 hdd hS.2.2.1
    exact ct_mApplyTiers (dk := rDk (M 34 0)) (fr := rFr (M 34 0)) (pop := rPop (M 34 0)) (bnd := rBnd (M 34 0)) (nd := M 33 0 5) (ni := M 33 0 6) (sg := M 34 0 52) (ln := M 34 0 53) (hI := fun _ => ms) (hl := Or.inr l3) (k1 := fun q => absurd q (by omega)) (k2 := fun _ q => by (simp only [x33, z33] at q); exfalso; omega) (k3 := fun _ _ _ P1 M3 hFD hLK => by
      have hA := an_apply hS hV (q := q) (by omega) (by omega) (t0 := bc_up X 33 0 4 0 45 0) (dk9 := rDk (M 34 0)) (g1 := bc_up X 33 0 4 0 46 0) (bw := bc_up X 33 0 4 0 33 0 34) (bl := bc_up X 33 0 4 0 33 0 35) (bz := bc_up X 33 0 4 0 47 0)
      have hD := ((MD.fd hFD).row (k := 40) (by decide)).lk hLK
      rw [x34] at hD
      refine mpm hD (fo.trans (congrArg w32 hA.2)) (K1.dk h1' hR hX hD co (by rw [x9, z33]; exact hA.1) h9 ?_ hBX)
      rw [z33, z34]
      exact hsv1.c hA.1 AG.rf) (k3a := fun _ _ q => by exfalso; omega) (ha := by rw [x33]; exact K1.a2) (hit := by rw [x33]; exact K1.a6) (hdi := by rw [x33]; exact K1.a5) (hcl := by rw [x33]; exact K1.a7)
