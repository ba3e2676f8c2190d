/-! the sum of the access times with an index -/
theorem tm_seg {sg S ln x k : Int} (hg : 0 < sg) (hS : 0 < S) (hl : 1 ≤ ln) (hx : 0 ≤ x) (hk : 0 ≤ k) : sp_tm sg S ln x < sg_x sg S k + k * ln ∨ sg_x sg S k + k * ln + ln ≤ sp_tm sg S ln x := by
  unfold sp_tm
  rw [if_neg (by omega)]
  by_cases h : sg_x sg S k ≤ x
  · right
    have h1 := (sg_x_le hg).mp h
    have h2 : k ≤ ((x + 1) * sg - 1) / S := by
      rw [Int.le_ediv_iff_mul_le hS]
      omega
    have h3 := Int.mul_le_mul_of_nonneg_right (show k + 1 ≤ ((x + 1) * sg - 1) / S + 1 by omega) (show 0 ≤ ln by omega)
    rw [Int.add_mul k 1 ln, Int.one_mul] at h3
    omega
  · left
    have h1 : ¬ k * S < (x + 1) * sg := fun q => h ((sg_x_le hg).mpr q)
    have h2 : ((x + 1) * sg - 1) / S < k := by
      apply Int.ediv_lt_of_lt_mul hS
      omega
    have h3 := Int.mul_le_mul_of_nonneg_right (show ((x + 1) * sg - 1) / S + 1 ≤ k by omega) (show 0 ≤ ln by omega)
    omega
theorem trim {s : Int} : s * (s - 1) / 2 = tri (s - 1) := by
  unfold tri
  rw [show s - 1 + 1 = s by omega, Int.mul_comm]
theorem bef_u {f : Int → Int} {N t p q : Int} (h1 : bef f N t p) (h2 : bef f N t q) : p = q := by
  rcases Int.lt_trichotomy p q with h | h | h
  · have a := h1.2.2 p (Int.le_refl _) (by have := h2.1; omega)
    have b := h2.2.1 p (by have := h1.1; omega) h
    omega
  · exact h
  · have a := h2.2.2 q (Int.le_refl _) (by have := h1.1; omega)
    have b := h1.2.1 q (by have := h2.1; omega) h
    omega
theorem ssum_split {A : Int → Int} : ∀ (a b : Nat) (t : Int), ssum A (a + b) t = ssum A a t + ssum A b (t + a)
  | 0, b, t => by simp only [Nat.zero_add, ssum, Int.natCast_zero, Int.add_zero, Int.zero_add]
  | a + 1, b, t => by
    rw [show a + 1 + b = (a + b) + 1 by omega]
    simp only [ssum]
    rw [ssum_split a b (t + 1), show t + 1 + (a : Int) = t + ((a + 1 : Nat) : Int) by omega]
    omega
/-- a run of slots that wait for the same slot T -/
theorem blk {f V : Int → Int} {N T : Int} {O : Int → Bool} (hm : ∀ q q', 0 ≤ q → q < q' → q' < N → f q < f q') (hO : ∀ t, O t = true ↔ ∃ q, 0 ≤ q ∧ q < N ∧ t = f q) : ∀ (n : Nat) (t p : Int), bef f N t p → (∀ u, t ≤ u → u < t + n → V u = T - u + 1 - (if O u = true then T - u else 0)) → ∃ p', bef f N (t + n) p' ∧ p ≤ p' ∧ ssum V n t = n * (T - (t + n - 1) + 1) + tri ((n : Int) - 1) - ((p' - p) * T - ssum f (p' - p).toNat p)
  | 0, t, p, hp, hV => by
    refine ⟨p, by rw [show t + ((0 : Nat) : Int) = t by omega]; exact hp, Int.le_refl _, ?_⟩
    rw [show (p - p).toNat = 0 by omega, show p - p = 0 by omega]
    simp only [ssum, Int.natCast_zero, Int.zero_mul]
    have : tri (0 - 1) = 0 := by decide
    omega
  | n + 1, t, p, hp, hV => by
    have h0 := hV t (Int.le_refl _) (by omega)
    have e1 : ((n + 1 : Nat) : Int) * (T - (t + ((n + 1 : Nat) : Int) - 1) + 1) = n * (T - (t + 1 + n - 1) + 1) + (T - t + 1) - n := by
      rw [show (t + ((n + 1 : Nat) : Int) - 1) = t + 1 + n - 1 by omega, show ((n + 1 : Nat) : Int) = (n : Int) + 1 by omega, Int.add_mul, Int.one_mul]
      omega
    have e2 : tri (((n + 1 : Nat) : Int) - 1) = tri ((n : Int) - 1) + n := by
      rw [show ((n + 1 : Nat) : Int) - 1 = ((n : Int) - 1) + 1 by omega, tri_s]
      omega
    by_cases ho : O t = true
    · obtain ⟨q, a, b, c⟩ := (hO t).mp ho
      obtain ⟨e, hp1⟩ := bef_yes hm hp ⟨a, b⟩ c
      subst e
      obtain ⟨p', g1, g2, g3⟩ := blk hm hO n (t + 1) (q + 1) hp1 (fun u x y => hV u (by omega) (by omega))
      refine ⟨p', by rw [show t + ((n + 1 : Nat) : Int) = t + 1 + n by omega]; exact g1, by omega, ?_⟩
      simp only [ssum]
      rw [g3, h0, if_pos ho, e1, e2, show (p' - q).toNat = (p' - (q + 1)).toNat + 1 by omega]
      simp only [ssum]
      rw [show (p' - q) * T = (p' - (q + 1)) * T + T by rw [show p' - q = (p' - (q + 1)) + 1 by omega, Int.add_mul, Int.one_mul]]
      omega
    · obtain ⟨p', g1, g2, g3⟩ := blk hm hO n (t + 1) p (bef_no hp (fun q => ho ((hO t).mpr q))) (fun u x y => hV u (by omega) (by omega))
      refine ⟨p', by rw [show t + ((n + 1 : Nat) : Int) = t + 1 + n by omega]; exact g1, g2, ?_⟩
      simp only [ssum]
      rw [g3, h0, if_neg ho, e1, e2]
      omega
theorem wi_in_s {f : Int → Int} {N lim : Int} (hm : ∀ q q', 0 ≤ q → q < q' → q' < N → f q < f q') : ∀ (n : Nat) (p t : Int), 0 ≤ p → p + n = N → (∀ q, 0 ≤ q → q < p → f q < lim) → bef f N lim (wi_in f lim n p t).1 ∧ (wi_in f lim n p t).2 = t + ssum f ((wi_in f lim n p t).1 - p).toNat p
  | 0, p, t, h1, h2, h3 => by
    simp only [wi_in]
    rw [show (p - p).toNat = 0 by omega]
    simp only [ssum]
    exact ⟨⟨by omega, h3, fun q a b => by omega⟩, by omega⟩
  | n + 1, p, t, h1, h2, h3 => by
    simp only [wi_in]
    by_cases h : f p < lim
    · rw [if_pos h]
      have ih := wi_in_s (lim := lim) hm n (p + 1) (t + f p) (by omega) (by omega) (fun q a b => by
        by_cases e : q = p
        · subst e; exact h
        · exact h3 q a (by omega))
      have hr := wi_in_rng (f := f) (lim := lim) n (p + 1) (t + f p)
      refine ⟨ih.1, ?_⟩
      rw [ih.2, show ((wi_in f lim n (p + 1) (t + f p)).1 - p).toNat = ((wi_in f lim n (p + 1) (t + f p)).1 - (p + 1)).toNat + 1 by omega]
      simp only [ssum]
      omega
    · rw [if_neg h]
      simp only
      rw [show (p - p).toNat = 0 by omega]
      simp only [ssum]
      refine ⟨⟨by omega, h3, fun q a b => ?_⟩, by omega⟩
      by_cases e : q = p
      · subst e; omega
      · have := hm p q h1 (by omega) b; omega
theorem wi_tail_s {f : Int → Int} {cyc : Int} : ∀ (n : Nat) (a sum : Int), wi_tail f cyc n a sum = sum - (n * (f 0 + cyc) - ssum f n a)
  | 0, a, sum => by simp only [wi_tail, ssum, Int.natCast_zero, Int.zero_mul]; omega
  | n + 1, a, sum => by
    simp only [wi_tail, ssum]
    rw [wi_tail_s n (a + 1) _, show ((n + 1 : Nat) : Int) * (f 0 + cyc) = n * (f 0 + cyc) + (f 0 + cyc) by rw [show ((n + 1 : Nat) : Int) = (n : Int) + 1 by omega, Int.add_mul, Int.one_mul]]
    omega
section WSI
variable {f st V : Int → Int} {N sg cyc ln : Int} {O : Int → Bool}
theorem bef_nx {t p : Int} (h : bef f N t p) (hd : ∀ q, 0 ≤ q → q < N → f q ≠ t) : bef f N (t + 1) p := ⟨h.1, fun q a b => by have := h.2.1 q a b; omega, fun q a b => by have := h.2.2 q a b; have := hd q (by have := h.1; omega) b; omega⟩
theorem wi_out_s (hm : ∀ q q', 0 ≤ q → q < q' → q' < N → f q < f q') (hN : 0 ≤ N) (hO : ∀ t, O t = true ↔ ∃ q, 0 ≤ q ∧ q < N ∧ t = f q) (hst : ∀ k k', 0 ≤ k → k < k' → k' < sg → st k < st k') (hdi : ∀ k, 0 ≤ k → k < sg → ∀ q, 0 ≤ q → q < N → f q ≠ st k)
    (hV : ∀ t k p', 1 ≤ k → k < sg → st (k - 1) < t → t ≤ st k → bef f N (st k) p' → V t = wi_tgt f N cyc p' - t + 1 - (if O t = true then wi_tgt f N cyc p' - t else 0)) : ∀ (n : Nat) (k sum p : Int), 1 ≤ k → k + n = sg → bef f N (st (k - 1)) p → (wi_out f st N cyc n k sum p (st (k - 1))).1 = sum + ssum V (st (sg - 1) - st (k - 1)).toNat (st (k - 1) + 1) ∧ bef f N (st (sg - 1)) (wi_out f st N cyc n k sum p (st (k - 1))).2
  | 0, k, sum, p, h1, h2, h3 => by
    have e : k = sg := by omega
    subst e
    simp only [wi_out]
    rw [show (st (k - 1) - st (k - 1)).toNat = 0 by omega]
    simp only [ssum]
    exact ⟨by omega, h3⟩
  | n + 1, k, sum, p, h1, h2, h3 => by
    have hk1 := hst (k - 1) k (by omega) (by omega) (by omega)
    have hw := wi_in_s (lim := st k) hm (N - p).toNat p 0 (by have := h3.1; omega) (by have := h3.1; omega) (fun q a b => by have := h3.2.1 q a b; omega)
    obtain ⟨p', g1, g2, g3⟩ := blk (V := V) (T := wi_tgt f N cyc (wi_in f (st k) (N - p).toNat p 0).1) hm hO (st k - st (k - 1)).toNat (st (k - 1) + 1) p (bef_nx h3 (fun q a b => hdi (k - 1) (by omega) (by omega) q a b)) (fun u a b => hV u k _ h1 (by omega) (by omega) (by omega) hw.1)
    have hp' : p' = (wi_in f (st k) (N - p).toNat p 0).1 := by
      rw [show st (k - 1) + 1 + ((st k - st (k - 1)).toNat : Int) = st k + 1 by omega] at g1
      exact bef_u g1 (bef_nx hw.1 (fun q a b => hdi k (by omega) (by omega) q a b))
    rw [hp'] at g2 g3
    have hs1 : st k ≤ st (sg - 1) := by
      by_cases e : k = sg - 1
      · subst e; omega
      · have := hst k (sg - 1) (by omega) (by omega) (by omega); omega
    have ih := wi_out_s hm hN hO hst hdi hV n (k + 1) (sum + ((st k - st (k - 1)) * (wi_tgt f N cyc (wi_in f (st k) (N - p).toNat p 0).1 - st k + 1) + (st k - st (k - 1)) * (st k - st (k - 1) - 1) / 2) - (((wi_in f (st k) (N - p).toNat p 0).1 - p) * wi_tgt f N cyc (wi_in f (st k) (N - p).toNat p 0).1 - (wi_in f (st k) (N - p).toNat p 0).2)) (wi_in f (st k) (N - p).toNat p 0).1 (by omega) (by omega) (by rw [show k + 1 - 1 = k by omega]; exact hw.1)
    rw [show k + 1 - 1 = k by omega] at ih
    simp only [wi_out]
    refine ⟨?_, ih.2⟩
    rw [ih.1, hw.2, trim]
    have hsp := ssum_split (A := V) (st k - st (k - 1)).toNat (st (sg - 1) - st k).toNat (st (k - 1) + 1)
    rw [show (st k - st (k - 1)).toNat + (st (sg - 1) - st k).toNat = (st (sg - 1) - st (k - 1)).toNat by omega, show st (k - 1) + 1 + ((st k - st (k - 1)).toNat : Int) = st k + 1 by omega] at hsp
    rw [hsp, g3, show ((st k - st (k - 1)).toNat : Int) = st k - st (k - 1) by omega, show st (k - 1) + 1 + (st k - st (k - 1)) - 1 = st k by omega]
    omega
/-- the class's sum is the sum over the slots -/
theorem wsi_all (hm : ∀ q q', 0 ≤ q → q < q' → q' < N → f q < f q') (hN : 1 ≤ N) (hf : ∀ q, 0 ≤ q → q < N → 0 ≤ f q ∧ f q < cyc) (hO : ∀ t, O t = true ↔ ∃ q, 0 ≤ q ∧ q < N ∧ t = f q) (hsg : 1 ≤ sg) (hst : ∀ k k', 0 ≤ k → k < k' → k' < sg → st k < st k') (hs0 : st 0 = 0) (hsc : st (sg - 1) < cyc) (hdi : ∀ k, 0 ≤ k → k < sg → ∀ q, 0 ≤ q → q < N → f q ≠ st k)
    (hV0 : V 0 = f 0 + 1) (hV : ∀ t k p', 1 ≤ k → k < sg → st (k - 1) < t → t ≤ st k → bef f N (st k) p' → V t = wi_tgt f N cyc p' - t + 1 - (if O t = true then wi_tgt f N cyc p' - t else 0))
    (hVt : ∀ t, st (sg - 1) < t → t < cyc → V t = f 0 + cyc - t + 1 - (if O t = true then f 0 + cyc - t else 0)) :
    wi_tail f cyc (N - (wi_out f st N cyc sg.toNat 0 0 0 (st (sg - 1) - cyc)).2).toNat (wi_out f st N cyc sg.toNat 0 0 0 (st (sg - 1) - cyc)).2 (wi_out f st N cyc sg.toNat 0 0 0 (st (sg - 1) - cyc)).1 = ssum V cyc.toNat 0 := by
  have hf0 := hf 0 (by omega) (by omega)
  have hsn : 0 ≤ st (sg - 1) := by
    by_cases e : sg - 1 = 0
    · rw [e, hs0]; omega
    · have := hst 0 (sg - 1) (by omega) (by omega) (by omega); omega
  have hin : wi_in f (st 0) (N - 0).toNat 0 0 = (0, 0) := by
    rw [show (N - 0).toNat = (N - 1).toNat + 1 by omega]
    simp only [wi_in]
    rw [if_neg (by omega)]
  have h1 : wi_out f st N cyc sg.toNat 0 0 0 (st (sg - 1) - cyc) = wi_out f st N cyc (sg - 1).toNat 1 ((cyc - st (sg - 1)) * (f 0 + 1) + tri (cyc - st (sg - 1) - 1)) 0 (st 0) := by
    rw [show sg.toNat = (sg - 1).toNat + 1 by omega]
    simp only [wi_out]
    rw [hin, trim]
    simp only
    unfold wi_tgt
    rw [if_pos (by omega), hs0, show (0 : Int) - (st (sg - 1) - cyc) = cyc - st (sg - 1) by omega, show f 0 - 0 + 1 = f 0 + 1 by omega]
    congr 1
    rw [show (0 : Int) - 0 = 0 by omega, Int.zero_mul]
    omega
  have hb0 : bef f N (st (1 - 1)) 0 := ⟨by omega, fun q a b => by omega, fun q a b => by rw [show (1 : Int) - 1 = 0 by omega, hs0]; exact (hf q a b).1⟩
  have hw := wi_out_s (V := V) (cyc := cyc) hm (by omega) hO hst hdi hV (sg - 1).toNat 1 ((cyc - st (sg - 1)) * (f 0 + 1) + tri (cyc - st (sg - 1) - 1)) 0 (by omega) (by omega) hb0
  rw [show (1 : Int) - 1 = 0 by omega] at hw
  rw [h1]
  generalize wi_out f st N cyc (sg - 1).toNat 1 ((cyc - st (sg - 1)) * (f 0 + 1) + tri (cyc - st (sg - 1) - 1)) 0 (st 0) = R at hw ⊢
  obtain ⟨R1, R2⟩ := R
  simp only at hw ⊢
  obtain ⟨p', g1, g2, g3⟩ := blk (V := V) (T := f 0 + cyc) hm hO (cyc - 1 - st (sg - 1)).toNat (st (sg - 1) + 1) R2 (bef_nx hw.2 (fun q a b => hdi (sg - 1) (by omega) (by omega) q a b)) (fun u a b => hVt u (by omega) (by omega))
  have hp' : p' = N := by
    rw [show st (sg - 1) + 1 + ((cyc - 1 - st (sg - 1)).toNat : Int) = cyc by omega] at g1
    exact bef_u g1 ⟨by omega, fun q a b => (hf q a b).2, fun q a b => by omega⟩
  rw [hp'] at g2 g3
  rw [wi_tail_s, hw.1]
  have s1 := ssum_split (A := V) 1 (cyc - 1).toNat 0
  have s2 := ssum_split (A := V) (st (sg - 1)).toNat (cyc - 1 - st (sg - 1)).toNat 1
  rw [show 1 + (cyc - 1).toNat = cyc.toNat by omega, show (0 : Int) + ((1 : Nat) : Int) = 1 by omega] at s1
  rw [show (st (sg - 1)).toNat + (cyc - 1 - st (sg - 1)).toNat = (cyc - 1).toNat by omega, show 1 + ((st (sg - 1)).toNat : Int) = st (sg - 1) + 1 by omega] at s2
  have s3 : ssum V 1 0 = f 0 + 1 := by simp only [ssum]; omega
  rw [s1, s2, s3, g3, hs0, show (st (sg - 1) - 0).toNat = (st (sg - 1)).toNat by omega, show (0 : Int) + 1 = 1 by omega, show ((N - R2).toNat : Int) = N - R2 by omega, show ((cyc - 1 - st (sg - 1)).toNat : Int) = cyc - 1 - st (sg - 1) by omega]
  have t1 : tri (cyc - st (sg - 1) - 1) = tri (cyc - 1 - st (sg - 1) - 1) + (cyc - 1 - st (sg - 1)) := by
    rw [show cyc - st (sg - 1) - 1 = (cyc - 1 - st (sg - 1) - 1) + 1 by omega, tri_s]
    omega
  have t2 : (cyc - st (sg - 1)) * (f 0 + 1) = (cyc - 1 - st (sg - 1)) * (f 0 + 1) + (f 0 + 1) := by
    rw [show cyc - st (sg - 1) = (cyc - 1 - st (sg - 1)) + 1 by omega, Int.add_mul, Int.one_mul]
  have t3 : (cyc - 1 - st (sg - 1)) * (f 0 + cyc - (st (sg - 1) + 1 + (cyc - 1 - st (sg - 1)) - 1) + 1) = (cyc - 1 - st (sg - 1)) * (f 0 + 1) + (cyc - 1 - st (sg - 1)) := by
    rw [show f 0 + cyc - (st (sg - 1) + 1 + (cyc - 1 - st (sg - 1)) - 1) + 1 = (f 0 + 1) + 1 by omega, Int.mul_add _ (f 0 + 1) 1, Int.mul_one]
  rw [t1, t2, t3]
  omega
end WSI
