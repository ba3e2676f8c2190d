/-- tiers' sizes in order -/
def SZ (k ni : Int) (g : Int → Int) : Prop := (∀ q, 0 ≤ q → q < k → 1 ≤ g q) ∧ sp_sum g k.toNat = ni
theorem SZ.rng {k ni : Int} {g : Int → Int} (h : SZ k ni g) (hk : 0 ≤ k) : ∀ q, 0 ≤ q → q < k → 1 ≤ g q ∧ g q ≤ ni := fun q a b => by
  have h1 := h.1 q a b
  have h2 := sp_sum_part (f := g) k.toNat q.toNat (by omega) (fun x y z => by have := h.1 x y (by omega); omega)
  have h3 := sp_sum_rng (f := g) (B := g q + sp_sum g k.toNat) q.toNat (fun x y z => by
    have u1 := h.1 x y (by omega)
    have u2 := sp_sum_part (f := g) k.toNat x.toNat (by omega) (fun x y z => by have := h.1 x y (by omega); omega)
    rw [show ((x.toNat : Nat) : Int) = x by omega] at u2
    have u3 : 0 ≤ sp_sum g x.toNat := by
      have : ∀ n : Nat, n ≤ k.toNat → 0 ≤ sp_sum g n := by
        intro n
        induction n with
        | zero => intro _; simp [sp_sum]
        | succ n ih => intro hn; simp only [sp_sum]; have := ih (by omega); have := h.1 n (by omega) (by omega); omega
      exact this _ (by omega)
    omega)
  rw [show ((q.toNat : Nat) : Int) = q by omega] at h2
  have := h.2
  omega
theorem sz_first_ok {k ni : Int} {g : Int → Int} (hk : 1 ≤ k ∧ k ≤ 4) (hn : k ≤ ni) : SZ k ni (sz_first k ni g) := by
  have hc : k = 1 ∨ k = 2 ∨ k = 3 ∨ k = 4 := by omega
  rcases hc with rfl | rfl | rfl | rfl
  · refine ⟨fun q a b => ?_, ?_⟩
    · have : q = 0 := by omega
      subst this
      simp [sz_first, sz_ones, bc_u]; omega
    · simp [sz_first, sz_ones, bc_u, sp_sum, show (1 : Int).toNat = 1 from rfl]
  · refine ⟨fun q a b => ?_, ?_⟩
    · have : q = 0 ∨ q = 1 := by omega
      rcases this with rfl | rfl <;> simp [sz_first, sz_ones, bc_u, show (2 : Int).toNat = 2 from rfl] <;> omega
    · simp [sz_first, sz_ones, bc_u, sp_sum, show (2 : Int).toNat = 2 from rfl]; omega
  · refine ⟨fun q a b => ?_, ?_⟩
    · have : q = 0 ∨ q = 1 ∨ q = 2 := by omega
      rcases this with rfl | rfl | rfl <;> simp [sz_first, sz_ones, bc_u, show (3 : Int).toNat = 3 from rfl] <;> omega
    · simp [sz_first, sz_ones, bc_u, sp_sum, show (3 : Int).toNat = 3 from rfl]; omega
  · refine ⟨fun q a b => ?_, ?_⟩
    · have : q = 0 ∨ q = 1 ∨ q = 2 ∨ q = 3 := by omega
      rcases this with rfl | rfl | rfl | rfl <;> simp [sz_first, sz_ones, bc_u, show (4 : Int).toNat = 4 from rfl] <;> omega
    · simp [sz_first, sz_ones, bc_u, sp_sum, show (4 : Int).toNat = 4 from rfl]; omega
theorem sz_next_ok {k ni : Int} {g : Int → Int} (hk : 1 ≤ k ∧ k ≤ 4) (h : SZ k ni g) : SZ k ni (sz_next k g).2 := by
  have hc : k = 1 ∨ k = 2 ∨ k = 3 ∨ k = 4 := by omega
  obtain ⟨h1, h2⟩ := h
  rcases hc with rfl | rfl | rfl | rfl
  · exact ⟨h1, h2⟩
  · have g0 := h1 0 (by decide) (by decide)
    have g1 := h1 1 (by decide) (by decide)
    simp [sp_sum, show (2 : Int).toNat = 2 from rfl] at h2
    have e : sz_next 2 g = if 1 < g 1 then (true, bc_u (bc_u g 0 (g 0 + 1)) 1 (g 1 - 1)) else (false, g) := rfl
    rw [e]
    split
    · refine ⟨fun q a b => ?_, ?_⟩
      · have : q = 0 ∨ q = 1 := by omega
        rcases this with rfl | rfl <;> simp [bc_u] <;> omega
      · simp [bc_u, sp_sum, show (2 : Int).toNat = 2 from rfl]; omega
    · exact ⟨h1, by simp [sp_sum, show (2 : Int).toNat = 2 from rfl]; omega⟩
  · have g0 := h1 0 (by decide) (by decide)
    have g1 := h1 1 (by decide) (by decide)
    have g2 := h1 2 (by decide) (by decide)
    simp [sp_sum, show (3 : Int).toNat = 3 from rfl] at h2
    have e : sz_next 3 g = if 1 < g 2 then (true, bc_u (bc_u g 1 (g 1 + 1)) 2 (g 2 - 1)) else if 2 < g 2 + g 1 then (true, bc_u (bc_u (bc_u g 0 (g 0 + 1)) 1 1) 2 (g 2 + g 1 - 2)) else (false, g) := rfl
    rw [e]
    split
    · refine ⟨fun q a b => ?_, ?_⟩
      · have : q = 0 ∨ q = 1 ∨ q = 2 := by omega
        rcases this with rfl | rfl | rfl <;> simp [bc_u] <;> omega
      · simp [bc_u, sp_sum, show (3 : Int).toNat = 3 from rfl]; omega
    · split
      · refine ⟨fun q a b => ?_, ?_⟩
        · have : q = 0 ∨ q = 1 ∨ q = 2 := by omega
          rcases this with rfl | rfl | rfl <;> simp [bc_u] <;> omega
        · simp [bc_u, sp_sum, show (3 : Int).toNat = 3 from rfl]; omega
      · exact ⟨h1, by simp [sp_sum, show (3 : Int).toNat = 3 from rfl]; omega⟩
  · have g0 := h1 0 (by decide) (by decide)
    have g1 := h1 1 (by decide) (by decide)
    have g2 := h1 2 (by decide) (by decide)
    have g3 := h1 3 (by decide) (by decide)
    simp [sp_sum, show (4 : Int).toNat = 4 from rfl] at h2
    have e : sz_next 4 g = if 1 < g 3 then (true, bc_u (bc_u g 2 (g 2 + 1)) 3 (g 3 - 1)) else if 2 < g 3 + g 2 then (true, bc_u (bc_u (bc_u g 1 (g 1 + 1)) 2 1) 3 (g 3 + g 2 - 2)) else if 3 < g 3 + g 2 + g 1 then (true, bc_u (bc_u (bc_u (bc_u g 0 (g 0 + 1)) 1 1) 2 1) 3 (g 3 + g 2 + g 1 - 3)) else (false, g) := rfl
    rw [e]
    split
    · refine ⟨fun q a b => ?_, ?_⟩
      · have : q = 0 ∨ q = 1 ∨ q = 2 ∨ q = 3 := by omega
        rcases this with rfl | rfl | rfl | rfl <;> simp [bc_u] <;> omega
      · simp [bc_u, sp_sum, show (4 : Int).toNat = 4 from rfl]; omega
    · split
      · refine ⟨fun q a b => ?_, ?_⟩
        · have : q = 0 ∨ q = 1 ∨ q = 2 ∨ q = 3 := by omega
          rcases this with rfl | rfl | rfl | rfl <;> simp [bc_u] <;> omega
        · simp [bc_u, sp_sum, show (4 : Int).toNat = 4 from rfl]; omega
      · split
        · refine ⟨fun q a b => ?_, ?_⟩
          · have : q = 0 ∨ q = 1 ∨ q = 2 ∨ q = 3 := by omega
            rcases this with rfl | rfl | rfl | rfl <;> simp [bc_u] <;> omega
          · simp [bc_u, sp_sum, show (4 : Int).toNat = 4 from rfl]; omega
        · exact ⟨h1, by simp [sp_sum, show (4 : Int).toNat = 4 from rfl]; omega⟩
/-- the weight and the cycle of a program by its settings -/
def spX (dk fr pop bnd : Int → Int) (nd ni sg ln : Int) : bc_M := bc_row (bc_row (spM dk fr nd ni sg ln) 8 0 pop) 10 0 bnd
theorem spX_br {dk fr pop bnd : Int → Int} {nd ni sg ln : Int} : BR (spX dk fr pop bnd nd ni sg ln) 0 dk fr nd ni sg ln := by
  have h := spM_br (dk := dk) (fr := fr) (nd := nd) (ni := ni) (sg := sg) (ln := ln)
  unfold BR at h ⊢
  have e : ∀ k q, k ≠ 8 → k ≠ 10 → spX dk fr pop bnd nd ni sg ln k q = spM dk fr nd ni sg ln k q := fun k q a b => by unfold spX; rw [row_kne b, row_kne a]
  simp only [e 17 _ (by decide) (by decide), e 18 _ (by decide) (by decide), e 19 _ (by decide) (by decide), e 21 _ (by decide) (by decide)]
  exact h
def sp_W (dk fr pop : Int → Int) (nd ni sg ln f : Int) : Int := pg_weigh (spX dk fr pop pop nd ni sg ln) 0 0 f ni.toNat 0 0
def sp_C (dk fr : Int → Int) (nd ni sg ln : Int) : Int := sp_S dk fr nd ni + sg * ln
theorem sp_W_of {M : bc_M} {j z f nd ni sg ln : Int} {dk fr pop : Int → Int} (hv : SV dk fr nd ni sg ln) (h : BR M j dk fr nd ni sg ln) (e8 : M 8 z = pop) : pg_weigh M j z f ni.toNat 0 0 = sp_W dk fr pop nd ni sg ln f := by
  unfold sp_W
  refine PE.weigh (BR.pe hv h spX_br) (fun i a b => ?_) _ _ _ (by omega) (by have := hv.2.1; omega)
  rw [e8]
  unfold spX
  rw [row_kne (by decide), row_at]
theorem pg_weigh_rng {M : bc_M} {j z ni : Int} (hp : PV M j ni) (hb : ∀ i, 0 ≤ i → i < ni → 0 ≤ M 8 z i ∧ M 8 z i ≤ 99) : ∀ (n : Nat) (i w B : Int), 0 ≤ i → i + n ≤ ni → (-B ≤ w ∧ w ≤ B) → -(B + n * 19800000000) ≤ pg_weigh M j z 0 n i w ∧ pg_weigh M j z 0 n i w ≤ B + n * 19800000000
  | 0, i, w, B, _, _, h => by simp only [pg_weigh]; omega
  | n + 1, i, w, B, h1, h2, h => by
    simp only [pg_weigh]
    have a1 := pg_ws_rng hp (i := i) (by omega)
    have a2 := bm_abs (a := M 8 z i) (b := pg_ws M j i + 0 * pg_ls M j i) (A := 99) (B := 200000000) (by have := hb i h1 (by omega); omega) (by rw [Int.zero_mul]; omega)
    have := pg_weigh_rng hp hb n (i + 1) (w + M 8 z i * (pg_ws M j i + 0 * pg_ls M j i)) (B + 19800000000) (by omega) (by omega) (by omega)
    omega
def fb (W C : (Int → Int) → Int) (it dd : Int → Int) (ni k : Int) : Nat → Int → (Int → Int) → (Int → Int) → Int → Int → (Int → Int) → Int × Int × (Int → Int)
  | 0, _, _, _, bw, bc, bz => (bw, bc, bz)
  | f + 1, n, g, dk, bw, bc, bz =>
    if (sz_next k g).1 then fb W C it dd ni k f (n + 1) (sz_next k g).2 (as_out it dd g ni k.toNat 0 0 dk 0).1
      (if n = 0 ∨ W (as_out it dd g ni k.toNat 0 0 dk 0).1 * bc < bw * C (as_out it dd g ni k.toNat 0 0 dk 0).1 then W (as_out it dd g ni k.toNat 0 0 dk 0).1 else bw)
      (if n = 0 ∨ W (as_out it dd g ni k.toNat 0 0 dk 0).1 * bc < bw * C (as_out it dd g ni k.toNat 0 0 dk 0).1 then C (as_out it dd g ni k.toNat 0 0 dk 0).1 else bc)
      (if n = 0 ∨ W (as_out it dd g ni k.toNat 0 0 dk 0).1 * bc < bw * C (as_out it dd g ni k.toNat 0 0 dk 0).1 then g else bz)
    else ((if n = 0 ∨ W (as_out it dd g ni k.toNat 0 0 dk 0).1 * bc < bw * C (as_out it dd g ni k.toNat 0 0 dk 0).1 then W (as_out it dd g ni k.toNat 0 0 dk 0).1 else bw),
      (if n = 0 ∨ W (as_out it dd g ni k.toNat 0 0 dk 0).1 * bc < bw * C (as_out it dd g ni k.toNat 0 0 dk 0).1 then C (as_out it dd g ni k.toNat 0 0 dk 0).1 else bc),
      (if n = 0 ∨ W (as_out it dd g ni k.toNat 0 0 dk 0).1 * bc < bw * C (as_out it dd g ni k.toNat 0 0 dk 0).1 then g else bz))
theorem bx_ge {a b : Int} : 0 ≤ bx_cmp a b ↔ b ≤ a := by
  unfold bx_cmp
  split
  · exact ⟨fun _ => by omega, fun _ => by omega⟩
  · split
    · exact ⟨fun _ => by omega, fun _ => by omega⟩
    · exact ⟨fun _ => by omega, fun _ => by omega⟩
def fbP (z j : Int) : Nat → Int → Prop := fun k' j' => (k' = 9 ∧ j' = z) ∨ bpP j k' j' ∨ ((k' = 25 ∨ k' = 28 ∨ k' = 29) ∧ j' = 0)
theorem as_out_dk9 {it dd sz : Int → Int} {ni : Int} : ∀ (n : Nat) (t p : Int) (dk : Int → Int) (mv : Int), (∀ q, t ≤ q → q < t + n → 0 ≤ dd q ∧ dd q < 4) → (∀ i, 0 ≤ i → i < 16 → 0 ≤ dk i ∧ dk i < 10000) → ∀ i, 0 ≤ i → i < 16 → 0 ≤ (as_out it dd sz ni n t p dk mv).1 i ∧ (as_out it dd sz ni n t p dk mv).1 i < 10000
  | 0, t, p, dk, mv, _, h => h
  | n + 1, t, p, dk, mv, hd, h => by
    simp only [as_out]
    exact as_out_dk9 n (t + 1) _ _ _ (fun q a b => hd q (by omega) (by omega)) (as_in_dk9 (hd t (by omega) (by omega)) _ _ _ _ h)
set_option maxHeartbeats 2000000 in
theorem lp_best {G : bc_G} {post : bc_R → bc_M → Prop} {z j kk nd ni sg ln : Int} {fr pop it dd : Int → Int} {M0 : bc_M} (hz : 0 ≤ z ∧ z < 13) (hj : 0 ≤ j ∧ j < 2) (hk : 1 ≤ kk ∧ kk ≤ nd) (e7 : M0 7 z = fr) (e60 : M0 6 z 0 = sg) (e61 : M0 6 z 1 = ln) (e62 : M0 6 z 2 = nd) (e63 : M0 6 z 3 = ni) (e8 : M0 8 z = pop) (eit : M0 26 0 = it) (edd : M0 27 0 = dd) (hpop : ∀ i, 0 ≤ i → i < ni → 0 ≤ pop i ∧ pop i ≤ 99) (hit : ∀ q, 0 ≤ q → q < ni → 0 ≤ it q ∧ it q < ni) (hdd : ∀ q, 0 ≤ q → q < nd → 0 ≤ dd q ∧ dd q < nd) {W C : (Int → Int) → Int} (hW : ∀ dk, W dk = sp_W dk fr pop nd ni sg ln 0) (hC : ∀ dk, C dk = sp_C dk fr nd ni sg ln) : ∀ (n : Nat) (n0 bw bc : Int) (bz g dk : Int → Int) (Mc : bc_M) (y : Option Value) (h1 : n0 + n = 455) (h2 : 0 ≤ n0) (h3 : n0 = 0 ∨ ((-316800000000 ≤ bw ∧ bw ≤ 316800000000) ∧ 0 ≤ bc ∧ bc ≤ 1000)) (hV : SV dk fr nd ni sg ln) (hdk : ∀ q, 0 ≤ q → q < 16 → 0 ≤ dk q ∧ dk q < 10000) (hgs : SZ kk ni g) (hF : Fr (fbP z j) M0 Mc) (e9 : Mc 9 z = dk) (e253 : Mc 25 0 3 = bw) (e254 : Mc 25 0 4 = bc) (e28 : Mc 28 0 = bz) (e29 : Mc 29 0 = g) (k : ∀ M' : bc_M, Fr (fbP z j) M0 M' → M' 25 0 3 = (fb W C it dd ni kk n n0 g dk bw bc bz).1 → M' 25 0 4 = (fb W C it dd ni kk n n0 g dk bw bc bz).2.1 → M' 28 0 = (fb W C it dd ni kk n n0 g dk bw bc bz).2.2 → post (.inr none) M'), bc_W G RX7 cX7_findBest 8 none 7 0 0 20 [some (vR G 25 0), some (vI kk), some (vR G 6 z), some (vR G 17 j), some (vI 1), some (vI n0), y, none] [] Mc post := by
  intro n
  induction n with
  | zero =>
    intro n0 bw bc bz g dk Mc y h1 h2 h3 hV hdk hgs hF e9 e253 e254 e28 e29 k
    have hvn := hV.1
    have hvi := hV.2.1
    have hgr := hgs.rng (by omega)
    refine wp_iload eX7_findBest_20 rfl ?_
    refine wp_sipush eX7_findBest_22 ?_
    refine wp_icmp_ge eX7_findBest_25 (fun c25 => ?_) (fun c25 => ?_)
    · refine wp_return eX7_findBest_125 ?_
      simp only [fb] at k
      exact k _ hF e253 e254 e28
    · omega
  | succ n ih =>
    intro n0 bw bc bz g dk Mc y h1 h2 h3 hV hdk hgs hF e9 e253 e254 e28 e29 k
    have hvn := hV.1
    have hvi := hV.2.1
    have hgr := hgs.rng (by omega)
    refine wp_iload eX7_findBest_20 rfl ?_
    refine wp_sipush eX7_findBest_22 ?_
    refine wp_icmp_ge eX7_findBest_25 (fun c25 => ?_) (fun c25 => ?_)
    · omega
    · refine wp_iload eX7_findBest_28 rfl ?_
      refine wp_if_eq eX7_findBest_30 (fun c30 => ?_) (fun c30 => ?_)
      · exact absurd c30 (by decide)
      · refine wp_aload_n eX7_findBest_33 rfl ?_
        refine wp_aload_n eX7_findBest_34 rfl ?_
        refine gf_X7_29 eX7_findBest_35 ?_
        refine wp_iload_n eX7_findBest_38 rfl ?_
        refine wp_aload_n eX7_findBest_39 rfl ?_
        refine c_X7_56 eX7_findBest_40 (ct_assign29 (it := it) (dd := dd) (sz := g) (ni := ni) hz (by omega) (by omega) (by rw [hF 6 z (by unfold fbP bpP; omega)]; exact e63) (by rw [hF 26 0 (by unfold fbP bpP; omega)]; exact eit) (by rw [hF 27 0 (by unfold fbP bpP; omega)]; exact edd) e29 (fun q a b => by have := hit q a b; omega) (fun q a b => by have := hgr q a b; omega) (fun q a b => by have := hdd q a (by omega); omega) (by rw [e9]; exact hdk) ?_)
        rw [e9]
        have hsv : SV (as_out it dd g ni kk.toNat 0 0 dk 0).1 fr nd ni sg ln := ⟨hV.1, hV.2.1, hV.2.2.1, hV.2.2.2.1, hV.2.2.2.2.1, as_out_dk _ _ _ _ _ (fun q a b => hdd q a (by omega)) hV.2.2.2.2.2⟩
        have hdk2 : ∀ q, 0 ≤ q → q < 16 → 0 ≤ (as_out it dd g ni kk.toNat 0 0 dk 0).1 q ∧ (as_out it dd g ni kk.toNat 0 0 dk 0).1 q < 10000 := as_out_dk9 _ _ _ _ _ (fun q a b => by have := hdd q a (by omega); omega) hdk
        refine wp_pop eX7_findBest_43 ?_
        refine wp_aload_n eX7_findBest_44 rfl ?_
        refine wp_aload_n eX7_findBest_45 rfl ?_
        refine c_X7_60 eX7_findBest_46 (ct_build (z := z) (nd := nd) (ni := ni) (sg := sg) (ln := ln) (fr := fr) hj hz hsv row_at (by rw [row_kne (by decide), hF 7 z (by unfold fbP bpP; omega)]; exact e7) (by rw [row_kne (by decide), hF 6 z (by unfold fbP bpP; omega)]; exact e60) (by rw [row_kne (by decide), hF 6 z (by unfold fbP bpP; omega)]; exact e61) (by rw [row_kne (by decide), hF 6 z (by unfold fbP bpP; omega)]; exact e62) (by rw [row_kne (by decide), hF 6 z (by unfold fbP bpP; omega)]; exact e63) (fun M1 hF1 hBR => ?_))
        have hpv := BR.pv hsv hBR
        have f8 : M1 8 z = pop := by rw [hF1 8 z (by unfold bpP; omega), row_kne (by decide), hF 8 z (by unfold fbP bpP; omega)]; exact e8
        have f6 : M1 6 z 3 = ni := by rw [hF1 6 z (by unfold bpP; omega), row_kne (by decide), hF 6 z (by unfold fbP bpP; omega)]; exact e63
        have f25 : M1 25 0 = Mc 25 0 := by rw [hF1 25 0 (by unfold bpP; omega), row_kne (by decide)]
        have f28 : M1 28 0 = Mc 28 0 := by rw [hF1 28 0 (by unfold bpP; omega), row_kne (by decide)]
        have f29 : M1 29 0 = Mc 29 0 := by rw [hF1 29 0 (by unfold bpP; omega), row_kne (by decide)]
        have f9 : M1 9 z = (as_out it dd g ni kk.toNat 0 0 dk 0).1 := by rw [hF1 9 z (by unfold bpP; omega), row_at]
        have hF2 : Fr (fbP z j) M0 M1 := Fr.tr (Fr.tr hF (row_fr.mono (fun k9 j9 h9 => Or.inl h9))) (hF1.mono (fun k9 j9 h9 => Or.inr (Or.inl h9)))
        have hwr := pg_weigh_rng (z := z) hpv.1 (fun i a b => by rw [f8]; exact hpop i a b) ni.toNat 0 0 0 (by omega) (by omega) (by omega)
        have hw1 : pg_weigh M1 j z 0 ni.toNat 0 0 = W (as_out it dd g ni kk.toNat 0 0 dk 0).1 := by rw [hW]; exact sp_W_of hsv hBR f8
        have hc1 : M1 17 j 0 = C (as_out it dd g ni kk.toNat 0 0 dk 0).1 := by rw [hC]; exact hBR.1
        have hcr : 0 < M1 17 j 0 ∧ M1 17 j 0 ≤ 1000 := hpv.1.1
        generalize hdke : (as_out it dd g ni kk.toNat 0 0 dk 0).1 = dk2 at *
        refine wp_aload_n eX7_findBest_49 rfl ?_
        refine wp_aload_n eX7_findBest_50 rfl ?_
        refine wp_iconst eX7_findBest_51 ?_
        refine c_X7_65 eX7_findBest_52 (ct_weigh (ni := ni) hj hpv.1 hz f6 (fun i a b => by rw [f8]; exact hpop i a b) (by omega) hpv.2 ?_)
        rw [hw1] at hwr ⊢
        rw [hc1] at hcr
        refine lst_6 eX7_findBest_55 ?_
        refine wp_iload eX7_findBest_57 rfl ?_
        refine wp_if_eq eX7_findBest_59 (fun c59 => ?_) (fun c59 => ?_)
        · have hyes : n0 = 0 ∨ W dk2 * bc < bw * C dk2 := Or.inl c59
          refine wp_aload_n eX7_findBest_84 rfl ?_
          refine wp_lload eX7_findBest_85 rfl ?_
          refine pf_X7_21 eX7_findBest_87 ?_
          refine wp_aload_n eX7_findBest_90 rfl ?_
          refine wp_aload_n eX7_findBest_91 rfl ?_
          refine gf_X7_69 eX7_findBest_92 ?_
          rw [up_kne (by decide), hc1]
          refine pf_X7_25 eX7_findBest_95 ?_
          refine wp_aload_n eX7_findBest_98 rfl ?_
          refine gf_X7_29 eX7_findBest_99 ?_
          refine wp_iconst eX7_findBest_102 ?_
          refine wp_aload_n eX7_findBest_103 rfl ?_
          refine gf_X7_18 eX7_findBest_104 ?_
          refine wp_iconst eX7_findBest_107 ?_
          refine wp_iconst eX7_findBest_108 ?_
          refine cp_X7_72_29_28 eX7_findBest_109 ?_
          rw [show bc_up (bc_up M1 25 0 3 (W dk2)) 25 0 4 (C dk2) 29 0 = g by rw [up_kne (by decide), up_kne (by decide), f29]; exact e29]
          refine wp_aload_n eX7_findBest_112 rfl ?_
          refine wp_iload_n eX7_findBest_113 rfl ?_
          refine c_X7_78 eX7_findBest_114 (ct_nextSizes (kk := kk) (by omega) (fun q a b => by rw [show (bc_row (bc_up (bc_up M1 25 0 3 (W dk2)) 25 0 4 (C dk2)) 28 0 g) 29 0 = g from (by rw [row_kne (by decide), up_kne (by decide), up_kne (by decide), f29]; exact e29)]; have := hgr q a b; omega) ?_)
          rw [show (bc_row (bc_up (bc_up M1 25 0 3 (W dk2)) 25 0 4 (C dk2)) 28 0 g) 29 0 = g from (by rw [row_kne (by decide), up_kne (by decide), up_kne (by decide), f29]; exact e29)]
          have g1 : (if n0 = 0 ∨ W dk2 * bc < bw * C dk2 then W dk2 else bw) = (W dk2) := if_pos hyes
          have g2 : (if n0 = 0 ∨ W dk2 * bc < bw * C dk2 then C dk2 else bc) = (C dk2) := if_pos hyes
          have g3 : (if n0 = 0 ∨ W dk2 * bc < bw * C dk2 then g else bz) = g := if_pos hyes
          simp only [fb, hdke, g1, g2, g3] at k
          refine ist_4 eX7_findBest_117 ?_
          refine inc_5 eX7_findBest_119 ?_
          refine wp_goto eX7_findBest_122 ?_
          have q3 : (bc_row (bc_row (bc_up (bc_up M1 25 0 3 (W dk2)) 25 0 4 (C dk2)) 28 0 g) 29 0 (sz_next kk g).2) 25 0 3 = W dk2 := by rw [row_kne (by decide), row_kne (by decide), up_v, if_neg (by decide), up_v, if_pos rfl]
          have q4 : (bc_row (bc_row (bc_up (bc_up M1 25 0 3 (W dk2)) 25 0 4 (C dk2)) 28 0 g) 29 0 (sz_next kk g).2) 25 0 4 = C dk2 := by rw [row_kne (by decide), row_kne (by decide), up_v, if_pos rfl]
          have q28 : (bc_row (bc_row (bc_up (bc_up M1 25 0 3 (W dk2)) 25 0 4 (C dk2)) 28 0 g) 29 0 (sz_next kk g).2) 28 0 = g := by rw [row_kne (by decide), row_at]
          have q9 : (bc_row (bc_row (bc_up (bc_up M1 25 0 3 (W dk2)) 25 0 4 (C dk2)) 28 0 g) 29 0 (sz_next kk g).2) 9 z = dk2 := by rw [row_kne (by decide), row_kne (by decide), up_kne (by decide), up_kne (by decide)]; exact f9
          have qF : Fr (fbP z j) M0 (bc_row (bc_row (bc_up (bc_up M1 25 0 3 (W dk2)) 25 0 4 (C dk2)) 28 0 g) 29 0 (sz_next kk g).2) := Fr.tr (Fr.tr (Fr.tr (Fr.tr hF2 (Fr.up (Or.inr (Or.inr ⟨Or.inl rfl, rfl⟩)))) (Fr.up (Or.inr (Or.inr ⟨Or.inl rfl, rfl⟩)))) (row_fr.mono (fun k9 j9 h9 => Or.inr (Or.inr ⟨Or.inr (Or.inl h9.1), h9.2⟩)))) (row_fr.mono (fun k9 j9 h9 => Or.inr (Or.inr ⟨Or.inr (Or.inr h9.1), h9.2⟩)))
          have q29 : (bc_row (bc_row (bc_up (bc_up M1 25 0 3 (W dk2)) 25 0 4 (C dk2)) 28 0 g) 29 0 (sz_next kk g).2) 29 0 = (sz_next kk g).2 := row_at
          generalize (bc_row (bc_row (bc_up (bc_up M1 25 0 3 (W dk2)) 25 0 4 (C dk2)) 28 0 g) 29 0 (sz_next kk g).2) = M2 at q3 q4 q28 q9 qF q29 ⊢
          have hgn := sz_next_ok (by omega) hgs
          cases hmo : (sz_next kk g).1
          · rw [hmo] at k
            simp only [Bool.false_eq_true, if_false] at k
            rw [show (if false = true then (1 : Int) else 0) = 0 from rfl]
            refine wp_iload eX7_findBest_20 rfl ?_
            refine wp_sipush eX7_findBest_22 ?_
            refine wp_icmp_ge eX7_findBest_25 (fun c25 => ?_) (fun c25 => ?_)
            · refine wp_return eX7_findBest_125 ?_
              exact k _ qF q3 q4 q28
            · refine wp_iload eX7_findBest_28 rfl ?_
              refine wp_if_eq eX7_findBest_30 (fun c30 => ?_) (fun c30 => ?_)
              · refine wp_return eX7_findBest_125 ?_
                exact k _ qF q3 q4 q28
              · exact absurd rfl c30
          · rw [hmo] at k
            simp only [if_true] at k
            rw [show (if true = true then (1 : Int) else 0) = 1 from rfl]
            exact ih (n0 + 1) (W dk2) (C dk2) g _ dk2 M2 _ (by omega) (by omega) (by omega) hsv hdk2 hgn qF q9 q3 q4 q28 q29 k
        · refine wp_lload eX7_findBest_62 rfl ?_
          refine wp_aload_n eX7_findBest_64 rfl ?_
          refine gf_X7_25 eX7_findBest_65 ?_
          rw [f25, e254]
          have hbb := h3.resolve_left c59
          refine wp_i2l eX7_findBest_68 ?_
          refine wp_lmul eX7_findBest_69 ?_
          refine wp_aload_n eX7_findBest_70 rfl ?_
          refine gf_X7_21 eX7_findBest_71 ?_
          rw [f25, e253]
          refine wp_aload_n eX7_findBest_74 rfl ?_
          refine gf_X7_69 eX7_findBest_75 ?_
          rw [hc1]
          refine wp_i2l eX7_findBest_78 ?_
          refine wp_lmul eX7_findBest_79 ?_
          have b1 := bm_abs (a := W dk2) (b := bc) (A := 316800000000) (B := 1000) (by omega) (by omega)
          have b2 := bm_abs (a := bw) (b := C dk2) (A := 316800000000) (B := 1000) (by omega) (by omega)
          refine wp_lcmp eX7_findBest_80 ?_
          refine wp_if_ge eX7_findBest_81 (fun c81 => ?_) (fun c81 => ?_) (by unfold bx_cmp; split <;> first | omega | (split <;> omega))
          · rw [bx_ge] at c81
            have hno : ¬ (n0 = 0 ∨ W dk2 * bc < bw * C dk2) := by omega
            refine wp_aload_n eX7_findBest_112 rfl ?_
            refine wp_iload_n eX7_findBest_113 rfl ?_
            refine c_X7_78 eX7_findBest_114 (ct_nextSizes (kk := kk) (by omega) (fun q a b => by rw [show M1 29 0 = g from (by rw [f29]; exact e29)]; have := hgr q a b; omega) ?_)
            rw [show M1 29 0 = g from (by rw [f29]; exact e29)]
            have g1 : (if n0 = 0 ∨ W dk2 * bc < bw * C dk2 then W dk2 else bw) = bw := if_neg hno
            have g2 : (if n0 = 0 ∨ W dk2 * bc < bw * C dk2 then C dk2 else bc) = bc := if_neg hno
            have g3 : (if n0 = 0 ∨ W dk2 * bc < bw * C dk2 then g else bz) = bz := if_neg hno
            simp only [fb, hdke, g1, g2, g3] at k
            refine ist_4 eX7_findBest_117 ?_
            refine inc_5 eX7_findBest_119 ?_
            refine wp_goto eX7_findBest_122 ?_
            have q3 : (bc_row M1 29 0 (sz_next kk g).2) 25 0 3 = bw := by rw [row_kne (by decide), f25]; exact e253
            have q4 : (bc_row M1 29 0 (sz_next kk g).2) 25 0 4 = bc := by rw [row_kne (by decide), f25]; exact e254
            have q28 : (bc_row M1 29 0 (sz_next kk g).2) 28 0 = bz := by rw [row_kne (by decide), f28]; exact e28
            have q9 : (bc_row M1 29 0 (sz_next kk g).2) 9 z = dk2 := by rw [row_kne (by decide)]; exact f9
            have qF : Fr (fbP z j) M0 (bc_row M1 29 0 (sz_next kk g).2) := Fr.tr hF2 (row_fr.mono (fun k9 j9 h9 => Or.inr (Or.inr ⟨Or.inr (Or.inr h9.1), h9.2⟩)))
            have q29 : (bc_row M1 29 0 (sz_next kk g).2) 29 0 = (sz_next kk g).2 := row_at
            generalize (bc_row M1 29 0 (sz_next kk g).2) = M2 at q3 q4 q28 q9 qF q29 ⊢
            have hgn := sz_next_ok (by omega) hgs
            cases hmo : (sz_next kk g).1
            · rw [hmo] at k
              simp only [Bool.false_eq_true, if_false] at k
              rw [show (if false = true then (1 : Int) else 0) = 0 from rfl]
              refine wp_iload eX7_findBest_20 rfl ?_
              refine wp_sipush eX7_findBest_22 ?_
              refine wp_icmp_ge eX7_findBest_25 (fun c25 => ?_) (fun c25 => ?_)
              · refine wp_return eX7_findBest_125 ?_
                exact k _ qF q3 q4 q28
              · refine wp_iload eX7_findBest_28 rfl ?_
                refine wp_if_eq eX7_findBest_30 (fun c30 => ?_) (fun c30 => ?_)
                · refine wp_return eX7_findBest_125 ?_
                  exact k _ qF q3 q4 q28
                · exact absurd rfl c30
            · rw [hmo] at k
              simp only [if_true] at k
              rw [show (if true = true then (1 : Int) else 0) = 1 from rfl]
              exact ih (n0 + 1) bw bc bz _ dk2 M2 _ (by omega) (by omega) (by omega) hsv hdk2 hgn qF q9 q3 q4 q28 q29 k
          · rw [bx_ge] at c81
            have hyes : n0 = 0 ∨ W dk2 * bc < bw * C dk2 := by omega
            refine wp_aload_n eX7_findBest_84 rfl ?_
            refine wp_lload eX7_findBest_85 rfl ?_
            refine pf_X7_21 eX7_findBest_87 ?_
            refine wp_aload_n eX7_findBest_90 rfl ?_
            refine wp_aload_n eX7_findBest_91 rfl ?_
            refine gf_X7_69 eX7_findBest_92 ?_
            rw [up_kne (by decide), hc1]
            refine pf_X7_25 eX7_findBest_95 ?_
            refine wp_aload_n eX7_findBest_98 rfl ?_
            refine gf_X7_29 eX7_findBest_99 ?_
            refine wp_iconst eX7_findBest_102 ?_
            refine wp_aload_n eX7_findBest_103 rfl ?_
            refine gf_X7_18 eX7_findBest_104 ?_
            refine wp_iconst eX7_findBest_107 ?_
            refine wp_iconst eX7_findBest_108 ?_
            refine cp_X7_72_29_28 eX7_findBest_109 ?_
            rw [show bc_up (bc_up M1 25 0 3 (W dk2)) 25 0 4 (C dk2) 29 0 = g by rw [up_kne (by decide), up_kne (by decide), f29]; exact e29]
            refine wp_aload_n eX7_findBest_112 rfl ?_
            refine wp_iload_n eX7_findBest_113 rfl ?_
            refine c_X7_78 eX7_findBest_114 (ct_nextSizes (kk := kk) (by omega) (fun q a b => by rw [show (bc_row (bc_up (bc_up M1 25 0 3 (W dk2)) 25 0 4 (C dk2)) 28 0 g) 29 0 = g from (by rw [row_kne (by decide), up_kne (by decide), up_kne (by decide), f29]; exact e29)]; have := hgr q a b; omega) ?_)
            rw [show (bc_row (bc_up (bc_up M1 25 0 3 (W dk2)) 25 0 4 (C dk2)) 28 0 g) 29 0 = g from (by rw [row_kne (by decide), up_kne (by decide), up_kne (by decide), f29]; exact e29)]
            have g1 : (if n0 = 0 ∨ W dk2 * bc < bw * C dk2 then W dk2 else bw) = (W dk2) := if_pos hyes
            have g2 : (if n0 = 0 ∨ W dk2 * bc < bw * C dk2 then C dk2 else bc) = (C dk2) := if_pos hyes
            have g3 : (if n0 = 0 ∨ W dk2 * bc < bw * C dk2 then g else bz) = g := if_pos hyes
            simp only [fb, hdke, g1, g2, g3] at k
            refine ist_4 eX7_findBest_117 ?_
            refine inc_5 eX7_findBest_119 ?_
            refine wp_goto eX7_findBest_122 ?_
            have q3 : (bc_row (bc_row (bc_up (bc_up M1 25 0 3 (W dk2)) 25 0 4 (C dk2)) 28 0 g) 29 0 (sz_next kk g).2) 25 0 3 = W dk2 := by rw [row_kne (by decide), row_kne (by decide), up_v, if_neg (by decide), up_v, if_pos rfl]
            have q4 : (bc_row (bc_row (bc_up (bc_up M1 25 0 3 (W dk2)) 25 0 4 (C dk2)) 28 0 g) 29 0 (sz_next kk g).2) 25 0 4 = C dk2 := by rw [row_kne (by decide), row_kne (by decide), up_v, if_pos rfl]
            have q28 : (bc_row (bc_row (bc_up (bc_up M1 25 0 3 (W dk2)) 25 0 4 (C dk2)) 28 0 g) 29 0 (sz_next kk g).2) 28 0 = g := by rw [row_kne (by decide), row_at]
            have q9 : (bc_row (bc_row (bc_up (bc_up M1 25 0 3 (W dk2)) 25 0 4 (C dk2)) 28 0 g) 29 0 (sz_next kk g).2) 9 z = dk2 := by rw [row_kne (by decide), row_kne (by decide), up_kne (by decide), up_kne (by decide)]; exact f9
            have qF : Fr (fbP z j) M0 (bc_row (bc_row (bc_up (bc_up M1 25 0 3 (W dk2)) 25 0 4 (C dk2)) 28 0 g) 29 0 (sz_next kk g).2) := Fr.tr (Fr.tr (Fr.tr (Fr.tr hF2 (Fr.up (Or.inr (Or.inr ⟨Or.inl rfl, rfl⟩)))) (Fr.up (Or.inr (Or.inr ⟨Or.inl rfl, rfl⟩)))) (row_fr.mono (fun k9 j9 h9 => Or.inr (Or.inr ⟨Or.inr (Or.inl h9.1), h9.2⟩)))) (row_fr.mono (fun k9 j9 h9 => Or.inr (Or.inr ⟨Or.inr (Or.inr h9.1), h9.2⟩)))
            have q29 : (bc_row (bc_row (bc_up (bc_up M1 25 0 3 (W dk2)) 25 0 4 (C dk2)) 28 0 g) 29 0 (sz_next kk g).2) 29 0 = (sz_next kk g).2 := row_at
            generalize (bc_row (bc_row (bc_up (bc_up M1 25 0 3 (W dk2)) 25 0 4 (C dk2)) 28 0 g) 29 0 (sz_next kk g).2) = M2 at q3 q4 q28 q9 qF q29 ⊢
            have hgn := sz_next_ok (by omega) hgs
            cases hmo : (sz_next kk g).1
            · rw [hmo] at k
              simp only [Bool.false_eq_true, if_false] at k
              rw [show (if false = true then (1 : Int) else 0) = 0 from rfl]
              refine wp_iload eX7_findBest_20 rfl ?_
              refine wp_sipush eX7_findBest_22 ?_
              refine wp_icmp_ge eX7_findBest_25 (fun c25 => ?_) (fun c25 => ?_)
              · refine wp_return eX7_findBest_125 ?_
                exact k _ qF q3 q4 q28
              · refine wp_iload eX7_findBest_28 rfl ?_
                refine wp_if_eq eX7_findBest_30 (fun c30 => ?_) (fun c30 => ?_)
                · refine wp_return eX7_findBest_125 ?_
                  exact k _ qF q3 q4 q28
                · exact absurd rfl c30
            · rw [hmo] at k
              simp only [if_true] at k
              rw [show (if true = true then (1 : Int) else 0) = 1 from rfl]
              exact ih (n0 + 1) (W dk2) (C dk2) g _ dk2 M2 _ (by omega) (by omega) (by omega) hsv hdk2 hgn qF q9 q3 q4 q28 q29 k
/-- what the search for the best division finds -/
def fbR (M : bc_M) (z kk : Int) : Int × Int × (Int → Int) := (fb (fun dk => sp_W dk (M 7 z) (M 8 z) (M 6 z 2) (M 6 z 3) (M 6 z 0) (M 6 z 1) 0) (fun dk => sp_C dk (M 7 z) (M 6 z 2) (M 6 z 3) (M 6 z 0) (M 6 z 1)) (rk_all (M 8 z) (M 6 z 3).toNat 0 (M 26 0)) (rk_all (M 7 z) (M 6 z 2).toNat 0 (M 27 0)) (M 6 z 3) kk 455 0 (sz_first kk (M 6 z 3) (M 29 0)) (M 9 z) (M 25 0 3) (M 25 0 4) (M 28 0))
theorem ct_findBest {G : bc_G} {M : bc_M} {post : bc_R → bc_M → Prop} {z j kk : Int} (hz : 0 ≤ z ∧ z < 13) (hj : 0 ≤ j ∧ j < 2) (hs : SM M z) (hk : 1 ≤ kk ∧ kk ≤ M 6 z 2) (hki : kk ≤ M 6 z 3) (hdk : ∀ q, 0 ≤ q → q < 16 → 0 ≤ M 9 z q ∧ M 9 z q < 10000) (k : ∀ M' : bc_M, Fr (fbP z j) (bc_row (rkM M z) 29 0 (sz_first kk (M 6 z 3) (M 29 0))) M' → M' 25 0 3 = (fbR M z kk).1 → M' 25 0 4 = (fbR M z kk).2.1 → M' 28 0 = (fbR M z kk).2.2 → post (.inr none) M') : bc_Call G yX7_findBest cX7_findBest 8 none 7 0 [vR G 25 0, vI kk, vR G 6 z, vR G 17 j] M post := by
  have hni := hs.1.2.1
  have hnd := hs.1.1
  refine bc_enter (L := [some (vR G 25 0), some (vI kk), some (vR G 6 z), some (vR G 17 j), none, none, none, none]) (by decide) rfl rfl ?_
  refine wp_aload_n eX7_findBest_0 rfl ?_
  refine wp_aload_n eX7_findBest_1 rfl ?_
  refine c_X7_48 eX7_findBest_2 (ct_rank hz hs ?_)
  have hrI := rk_all_rng (v := M 8 z) (M 6 z 3).toNat 0 (M 26 0) (by omega) (fun q a b => by omega)
  have hrD := rk_all_rng (v := M 7 z) (M 6 z 2).toNat 0 (M 27 0) (by omega) (fun q a b => by omega)
  refine wp_aload_n eX7_findBest_5 rfl ?_
  refine wp_iload_n eX7_findBest_6 rfl ?_
  refine wp_aload_n eX7_findBest_7 rfl ?_
  refine gf_X7_37 eX7_findBest_8 ?_
  rw [show rkM M z 6 z = M 6 z by unfold rkM; rw [row_kne (by decide), row_kne (by decide)]]
  refine c_X7_52 eX7_findBest_11 (ct_startSizes (by omega) ?_)
  refine wp_iconst eX7_findBest_14 ?_
  refine ist_4 eX7_findBest_15 ?_
  refine wp_iconst eX7_findBest_17 ?_
  refine ist_5 eX7_findBest_18 ?_
  rw [show rkM M z 29 0 = M 29 0 by unfold rkM; rw [row_kne (by decide), row_kne (by decide)]]
  have e9 : ∀ k9 q9, k9 ≠ 26 → k9 ≠ 27 → k9 ≠ 29 → bc_row (rkM M z) 29 0 (sz_first kk (M 6 z 3) (M 29 0)) k9 q9 = M k9 q9 := fun k9 q9 a b c => by rw [row_kne c]; unfold rkM; rw [row_kne b, row_kne a]
  refine lp_best (M0 := bc_row (rkM M z) 29 0 (sz_first kk (M 6 z 3) (M 29 0))) (fr := M 7 z) (pop := M 8 z) (sg := M 6 z 0) (ln := M 6 z 1) (nd := M 6 z 2) (ni := M 6 z 3) (it := rk_all (M 8 z) (M 6 z 3).toNat 0 (M 26 0)) (dd := rk_all (M 7 z) (M 6 z 2).toNat 0 (M 27 0)) hz hj hk ?_ ?_ ?_ ?_ ?_ ?_ ?_ ?_ ?_ ?_ ?_ (fun _ => rfl) (fun _ => rfl) 455 0 (M 25 0 3) (M 25 0 4) (M 28 0) (sz_first kk (M 6 z 3) (M 29 0)) (M 9 z) _ none (by omega) (by omega) (by omega) hs.1 hdk (sz_first_ok (by omega) (by omega)) Fr.rf ?_ ?_ ?_ ?_ row_at (fun M' h => k M' h)
  · rw [e9 _ _ (by decide) (by decide) (by decide)]
  · rw [e9 _ _ (by decide) (by decide) (by decide)]
  · rw [e9 _ _ (by decide) (by decide) (by decide)]
  · rw [e9 _ _ (by decide) (by decide) (by decide)]
  · rw [e9 _ _ (by decide) (by decide) (by decide)]
  · rw [e9 _ _ (by decide) (by decide) (by decide)]
  · rw [row_kne (by decide)]; unfold rkM; rw [row_kne (by decide), row_at]
  · rw [row_kne (by decide)]; unfold rkM; rw [row_at]
  · exact fun i a b => (hs.2 i a b).1
  · intro q a b; have := hrI q a (by omega); omega
  · intro q a b; have := hrD q a (by omega); omega
  · rw [e9 _ _ (by decide) (by decide) (by decide)]
  · rw [e9 _ _ (by decide) (by decide) (by decide)]
  · rw [e9 _ _ (by decide) (by decide) (by decide)]
  · rw [e9 _ _ (by decide) (by decide) (by decide)]
