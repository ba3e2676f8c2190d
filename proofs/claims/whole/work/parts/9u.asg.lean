/-! assigning: the class's and the model's -/
theorem as_in_s {it : Int → Int} {ni d : Int} : ∀ (n : Nat) (p : Int) (dk : Int → Int) (mv : Int), p + n ≤ ni → (as_in it ni d n p dk mv).1 = p + n ∧ (as_in it ni d n p dk mv).2.1 = ma_in it d n p dk
  | 0, p, dk, mv, _ => ⟨by simp only [as_in]; omega, rfl⟩
  | n + 1, p, dk, mv, h => by
    simp only [as_in, ma_in]
    rw [if_pos (by omega)]
    have := as_in_s (it := it) (ni := ni) (d := d) n (p + 1) (bc_u dk (it p) d) (if dk (it p) = d then mv else mv + 1) (by omega)
    exact ⟨by rw [this.1]; omega, this.2⟩
theorem sp_from_nn2 {sz : Int → Int} : ∀ (n : Nat) (t : Int), (∀ q, t ≤ q → q < t + n → 0 ≤ sz q) → 0 ≤ sp_from sz n t
  | 0, _, _ => by simp only [sp_from]; omega
  | n + 1, t, h => by
    simp only [sp_from]
    have := sp_from_nn2 n (t + 1) (fun q a b => h q (by omega) (by omega))
    have := h t (by omega) (by omega)
    omega
theorem as_out_s {it dd sz : Int → Int} {ni : Int} : ∀ (n : Nat) (t p : Int) (dk : Int → Int) (mv : Int), (∀ q, t ≤ q → q < t + n → 0 ≤ sz q) → p + sp_from sz n t ≤ ni → (as_out it dd sz ni n t p dk mv).1 = ma_out it dd sz n t p dk
  | 0, _, _, _, _, _, _ => rfl
  | n + 1, t, p, dk, mv, h, h2 => by
    have h0 := h t (by omega) (by omega)
    have h1 := sp_from_nn2 n (t + 1) (fun q a b => h q (by omega) (by omega))
    simp only [sp_from] at h2
    simp only [as_out, ma_out]
    have hs := as_in_s (it := it) (ni := ni) (d := dd t) (sz t).toNat p dk mv (by omega)
    rw [hs.1, hs.2, show p + ((sz t).toNat : Int) = p + sz t by omega]
    exact as_out_s n (t + 1) (p + sz t) _ _ (fun q a b => h q (by omega) (by omega)) (by omega)
theorem ma_in_k {it : Int → Int} {d i : Int} : ∀ (n : Nat) (p : Int) (dk : Int → Int), dk i = d → ma_in it d n p dk i = d
  | 0, _, _, h => h
  | n + 1, p, dk, h => by
    simp only [ma_in]
    refine ma_in_k n (p + 1) _ ?_
    by_cases e : i = it p
    · subst e; rw [u_at]
    · rw [u_ne e]; exact h
theorem ma_in_v {it : Int → Int} {d : Int} : ∀ (n : Nat) (p : Int) (dk : Int → Int) (q : Int), p ≤ q → q < p + n → ma_in it d n p dk (it q) = d
  | 0, p, _, q, a, b => by omega
  | n + 1, p, dk, q, a, b => by
    simp only [ma_in]
    by_cases e : q = p
    · subst e; exact ma_in_k n _ _ (by rw [u_at])
    · exact ma_in_v n (p + 1) _ q (by omega) (by omega)
theorem ma_in_it {it it' : Int → Int} {d : Int} : ∀ (n : Nat) (p : Int) (dk : Int → Int), (∀ q, p ≤ q → q < p + n → it q = it' q) → ma_in it d n p dk = ma_in it' d n p dk
  | 0, _, _, _ => rfl
  | n + 1, p, dk, h => by
    simp only [ma_in]
    rw [h p (by omega) (by omega)]
    exact ma_in_it n (p + 1) _ (fun q a b => h q (by omega) (by omega))
theorem ma_in_ag {it : Int → Int} {d i : Int} : ∀ (n : Nat) (p : Int) (dk dk' : Int → Int), dk i = dk' i → ma_in it d n p dk i = ma_in it d n p dk' i
  | 0, _, _, _, h => h
  | n + 1, p, dk, dk', h => by
    simp only [ma_in]
    refine ma_in_ag n (p + 1) _ _ ?_
    by_cases e : i = it p
    · subst e; rw [u_at, u_at]
    · rw [u_ne e, u_ne e]; exact h
theorem ma_in_or {it : Int → Int} {d i : Int} : ∀ (n : Nat) (p : Int) (dk : Int → Int), ma_in it d n p dk i = d ∨ ma_in it d n p dk i = dk i
  | 0, _, _ => Or.inr rfl
  | n + 1, p, dk => by
    simp only [ma_in]
    rcases ma_in_or (it := it) (d := d) (i := i) n (p + 1) (bc_u dk (it p) d) with h | h
    · exact Or.inl h
    · by_cases e : i = it p
      · rw [h, e, u_at]; exact Or.inl rfl
      · rw [h, u_ne e]; exact Or.inr rfl
theorem ma_out_ag {it dd sz it' dd' sz' : Int → Int} : ∀ (n : Nat) (t p : Int) (dk dk' : Int → Int), (∀ q, t ≤ q → q < t + n → 0 ≤ sz q ∧ sz q = sz' q ∧ dd q = dd' q) → (∀ q, p ≤ q → q < p + sp_from sz n t → it q = it' q) → (∀ q, 0 ≤ q → q < p → dk (it q) = dk' (it q)) → ∀ q, 0 ≤ q → q < p + sp_from sz n t → ma_out it dd sz n t p dk (it q) = ma_out it' dd' sz' n t p dk' (it q)
  | 0, t, p, dk, dk', _, _, h3, q, a, b => by
    simp only [sp_from] at b
    exact h3 q a (by omega)
  | n + 1, t, p, dk, dk', h1, h2, h3, q, a, b => by
    have h0 := h1 t (by omega) (by omega)
    have hn := sp_from_nn2 (sz := sz) n (t + 1) (fun q a b => (h1 q (by omega) (by omega)).1)
    simp only [sp_from] at b h2
    simp only [ma_out]
    rw [← h0.2.1, ← h0.2.2, ← ma_in_it (it := it) (it' := it') (sz t).toNat p dk' (fun q x y => h2 q x (by omega))]
    refine ma_out_ag n (t + 1) (p + sz t) _ _ (fun q x y => h1 q (by omega) (by omega)) (fun q x y => h2 q (by omega) (by omega)) (fun q x y => ?_) q a (by omega)
    by_cases e : p ≤ q
    · rw [ma_in_v _ _ _ q e (by omega), ma_in_v _ _ _ q e (by omega)]
    · exact ma_in_ag _ _ _ _ (h3 q x (by omega))
theorem ma_out_r {it dd sz : Int → Int} {nd : Int} : ∀ (n : Nat) (t p : Int) (dk : Int → Int), (∀ q, t ≤ q → q < t + n → 0 ≤ sz q ∧ 0 ≤ dd q ∧ dd q < nd) → (∀ q, 0 ≤ q → q < p → 0 ≤ dk (it q) ∧ dk (it q) < nd) → ∀ q, 0 ≤ q → q < p + sp_from sz n t → 0 ≤ ma_out it dd sz n t p dk (it q) ∧ ma_out it dd sz n t p dk (it q) < nd
  | 0, t, p, dk, _, h3, q, a, b => by
    simp only [sp_from] at b
    exact h3 q a (by omega)
  | n + 1, t, p, dk, h1, h3, q, a, b => by
    have h0 := h1 t (by omega) (by omega)
    simp only [sp_from] at b
    simp only [ma_out]
    refine ma_out_r n (t + 1) (p + sz t) _ (fun q x y => h1 q (by omega) (by omega)) (fun q x y => ?_) q a (by omega)
    by_cases e : p ≤ q
    · rw [ma_in_v _ _ _ q e (by omega)]; exact h0.2
    · have := h3 q x (by omega)
      by_cases hh : ma_in it (dd t) (sz t).toNat p dk (it q) = dk (it q)
      · rw [hh]; exact this
      · rcases ma_in_or (it := it) (d := dd t) (i := it q) (sz t).toNat p dk with z | z
        · rw [z]; exact h0.2
        · exact absurd z hh
/-! how many were moved -/
def INJ (it : Int → Int) (N : Int) : Prop := ∀ q q', 0 ≤ q → q < N → 0 ≤ q' → q' < N → it q = it q' → q = q'
theorem ma_in_o {it : Int → Int} {d N : Int} (hI : INJ it N) {q : Int} (hq : 0 ≤ q ∧ q < N) : ∀ (n : Nat) (p : Int) (dk : Int → Int), 0 ≤ p → p + n ≤ N → (q < p ∨ p + n ≤ q) → ma_in it d n p dk (it q) = dk (it q)
  | 0, _, _, _, _, _ => rfl
  | n + 1, p, dk, h0, h1, h2 => by
    simp only [ma_in]
    rw [ma_in_o hI hq n (p + 1) _ (by omega) (by omega) (by omega)]
    exact u_ne (fun e => by have := hI q p hq.1 hq.2 h0 (by omega) e; omega)
theorem ma_out_o {it dd sz : Int → Int} {N : Int} (hI : INJ it N) {q : Int} (hq : 0 ≤ q ∧ q < N) : ∀ (n : Nat) (t p : Int) (dk : Int → Int), (∀ x, t ≤ x → x < t + n → 0 ≤ sz x) → 0 ≤ p → p + sp_from sz n t ≤ N → q < p → ma_out it dd sz n t p dk (it q) = dk (it q)
  | 0, _, _, _, _, _, _, _ => rfl
  | n + 1, t, p, dk, hs, h0, h1, h2 => by
    have hn := sp_from_nn2 (sz := sz) n (t + 1) (fun q a b => hs q (by omega) (by omega))
    have ht := hs t (by omega) (by omega)
    simp only [sp_from] at h1
    simp only [ma_out]
    rw [ma_out_o hI hq n (t + 1) (p + sz t) _ (fun x a b => hs x (by omega) (by omega)) (by omega) (by omega) (by omega)]
    exact ma_in_o hI hq _ _ _ h0 (by omega) (Or.inl h2)
theorem as_in_mv {it : Int → Int} {ni d : Int} (hI : INJ it ni) : ∀ (n : Nat) (p : Int) (dk : Int → Int) (mv : Int), 0 ≤ p → p + n ≤ ni → (as_in it ni d n p dk mv).2.2 = mv + ssum (fun q => if dk (it q) = d then 0 else 1) n p
  | 0, p, dk, mv, _, _ => by simp only [as_in, ssum]; omega
  | n + 1, p, dk, mv, h0, h => by
    simp only [as_in, ssum]
    rw [if_pos (by omega), as_in_mv hI n (p + 1) (bc_u dk (it p) d) (if dk (it p) = d then mv else mv + 1) (by omega) (by omega)]
    have : ssum (fun q => if bc_u dk (it p) d (it q) = d then 0 else 1) n (p + 1) = ssum (fun q => if dk (it q) = d then 0 else 1) n (p + 1) := by
      refine ssum_c _ _ (fun u a b => ?_)
      rw [u_ne (fun e => by have := hI u p (by omega) (by omega) h0 (by omega) e; omega)]
    rw [this]
    split <;> omega
theorem as_out_mv {it dd sz : Int → Int} {ni : Int} (hI : INJ it ni) : ∀ (n : Nat) (t p : Int) (dk : Int → Int) (mv : Int), (∀ q, t ≤ q → q < t + n → 0 ≤ sz q) → 0 ≤ p → p + sp_from sz n t ≤ ni → (as_out it dd sz ni n t p dk mv).2 = mv + ssum (fun q => if dk (it q) = ma_out it dd sz n t p dk (it q) then 0 else 1) (sp_from sz n t).toNat p
  | 0, t, p, dk, mv, _, _, _ => by
    simp only [as_out, sp_from]
    rw [show (0 : Int).toNat = 0 by rfl]
    simp only [ssum]
    omega
  | n + 1, t, p, dk, mv, h, hp, h2 => by
    have h0 := h t (by omega) (by omega)
    have h1 := sp_from_nn2 n (t + 1) (fun q a b => h q (by omega) (by omega))
    have hI2 := hI
    simp only [sp_from] at h2 ⊢
    have hma : ma_out it dd sz (n + 1) t p dk = ma_out it dd sz n (t + 1) (p + sz t) (ma_in it (dd t) (sz t).toNat p dk) := rfl
    rw [hma]
    simp only [as_out]
    have hs := as_in_s (it := it) (ni := ni) (d := dd t) (sz t).toNat p dk mv (by omega)
    have hm := as_in_mv (d := dd t) hI (sz t).toNat p dk mv hp (by omega)
    rw [hs.1, hs.2, show p + ((sz t).toNat : Int) = p + sz t by omega, as_out_mv hI n (t + 1) (p + sz t) _ _ (fun q a b => h q (by omega) (by omega)) (by omega) (by omega), hm]
    have hsp := ssum_split (A := fun q => if dk (it q) = ma_out it dd sz n (t + 1) (p + sz t) (ma_in it (dd t) (sz t).toNat p dk) (it q) then 0 else 1) (sz t).toNat (sp_from sz n (t + 1)).toNat p
    rw [show (sz t).toNat + (sp_from sz n (t + 1)).toNat = (sz t + sp_from sz n (t + 1)).toNat by omega, show p + ((sz t).toNat : Int) = p + sz t by omega] at hsp
    rw [hsp]
    have e1 : ssum (fun q => if dk (it q) = dd t then 0 else 1) (sz t).toNat p = ssum (fun q => if dk (it q) = ma_out it dd sz n (t + 1) (p + sz t) (ma_in it (dd t) (sz t).toNat p dk) (it q) then 0 else 1) (sz t).toNat p := by
      refine ssum_c _ _ (fun u a b => ?_)
      rw [ma_out_o hI (q := u) ⟨by omega, by omega⟩ n (t + 1) (p + sz t) _ (fun q a b => h q (by omega) (by omega)) (by omega) (by omega) (by omega), ma_in_v _ _ _ u a b]
    have e2 : ssum (fun q => if ma_in it (dd t) (sz t).toNat p dk (it q) = ma_out it dd sz n (t + 1) (p + sz t) (ma_in it (dd t) (sz t).toNat p dk) (it q) then 0 else 1) (sp_from sz n (t + 1)).toNat (p + sz t) = ssum (fun q => if dk (it q) = ma_out it dd sz n (t + 1) (p + sz t) (ma_in it (dd t) (sz t).toNat p dk) (it q) then 0 else 1) (sp_from sz n (t + 1)).toNat (p + sz t) := by
      refine ssum_c _ _ (fun u a b => ?_)
      rw [ma_in_o hI (q := u) ⟨by omega, by omega⟩ (sz t).toNat p dk hp (by omega) (Or.inr (by omega))]
    rw [e1, e2]
    omega
theorem mo_mv_s {a b : Int → Int} : ∀ (n : Nat) (i w : Int), mo_mv a b n i w = w + ssum (fun i => if a i ≠ b i then 1 else 0) n i
  | 0, _, w => by simp only [mo_mv, ssum]; omega
  | n + 1, i, w => by
    simp only [mo_mv, ssum]
    rw [mo_mv_s n (i + 1)]
    split <;> omega
theorem ssum_sum {A : Int → Int} : ∀ (n m : Nat), ssum A n m + sp_sum A m = sp_sum A (m + n)
  | 0, m => by simp only [ssum, Nat.add_zero]; omega
  | n + 1, m => by
    simp only [ssum]
    have := ssum_sum (A := A) n (m + 1)
    rw [show ((m + 1 : Nat) : Int) = (m : Int) + 1 by omega, show m + 1 + n = m + (n + 1) by omega] at this
    rw [← this]
    simp only [sp_sum]
    omega
theorem sp_sum_pt {f : Int → Int} {x : Int} : ∀ n : Nat, sp_sum (fun i => if x = i then f i else 0) n = if 0 ≤ x ∧ x < n then f x else 0
  | 0 => by
    simp only [sp_sum]
    rw [if_neg (by omega)]
  | n + 1 => by
    simp only [sp_sum]
    rw [sp_sum_pt n]
    by_cases h1 : 0 ≤ x ∧ x < n
    · rw [if_pos h1, if_neg (by omega), if_pos (by omega)]; omega
    · rw [if_neg h1]
      by_cases h2 : x = n
      · rw [if_pos h2, if_pos (by omega), h2]; omega
      · rw [if_neg h2, if_neg (by omega)]; omega
theorem sp_sum_z {N : Nat} : sp_sum (fun _ => 0) N = 0 := by
  induction N with
  | zero => rfl
  | succ n ih => simp only [sp_sum]; rw [ih]; rfl
theorem sp_sum_sw {F : Int → Int → Int} {N : Nat} : ∀ n : Nat, sp_sum (fun q => sp_sum (fun i => F q i) N) n = sp_sum (fun i => sp_sum (fun q => F q i) n) N
  | 0 => by simp only [sp_sum]; exact sp_sum_z.symm
  | n + 1 => by
    simp only [sp_sum]
    rw [sp_sum_sw n, sp_sum_add (f := fun i => sp_sum (fun q => F q i) n) (g := fun i => F n i)]
theorem sp_perm {f it : Int → Int} {N : Nat} (hr : ∀ q, 0 ≤ q → q < (N : Int) → 0 ≤ it q ∧ it q < N) (hI : INJ it N) (hS : ∀ i, 0 ≤ i → i < (N : Int) → ∃ q, 0 ≤ q ∧ q < (N : Int) ∧ it q = i) : sp_sum (fun q => f (it q)) N = sp_sum f N := by
  have e1 : sp_sum (fun q => f (it q)) N = sp_sum (fun q => sp_sum (fun i => if it q = i then f i else 0) N) N := by
    refine sp_sum_ag _ (fun q a b => ?_)
    rw [sp_sum_pt, if_pos (hr q a b)]
  rw [e1, sp_sum_sw]
  refine sp_sum_ag _ (fun i a b => ?_)
  obtain ⟨q0, x, y, z⟩ := hS i a b
  have e2 : sp_sum (fun q => if it q = i then f i else 0) N = sp_sum (fun q => if q0 = q then (fun _ => f i) q else 0) N := by
    refine sp_sum_ag _ (fun q c d => ?_)
    by_cases e : q0 = q
    · subst e; rw [if_pos z, if_pos rfl]
    · rw [if_neg e, if_neg (fun w => e (hI q0 q x y c d (z.trans w.symm)))]
  rw [e2, sp_sum_pt, if_pos ⟨x, y⟩]
