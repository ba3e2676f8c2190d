/-! rankings -/
def rbf (v : Int → Int) (a b : Int) : Bool := decide (v b < v a ∨ (v a = v b ∧ a < b))
/-- how many of n from o on go ahead of i -/
def ra (v : Int → Int) (i : Int) : Nat → Int → Int → Int
  | 0, _, w => w
  | n + 1, o, w => ra v i n (o + 1) (if rbf v o i = true then w + 1 else w)
/-- the first with p ahead -/
def rf (v : Int → Int) (N p : Int) : Nat → Int → Int
  | 0, _ => -1
  | n + 1, i => if ra v i N.toNat 0 0 = p then i else rf v N p n (i + 1)
theorem rk_in_s {v : Int → Int} {x : Int} : ∀ (n : Nat) (p : Int) (r : Int → Int), p = n → ∃ p0, (0 ≤ p0 ∧ p0 ≤ p) ∧ (p0 = 0 ∨ v x ≤ v (r (p0 - 1))) ∧ (∀ q, p0 ≤ q → q < p → v (r q) < v x) ∧ ∀ q, rk_in v x n p r q = if q < p0 then r q else if q = p0 then x else if q ≤ p then r (q - 1) else r q
  | 0, p, r, hp => ⟨p, by omega, Or.inl (by omega), fun q a b => by omega, fun q => by
    simp only [rk_in]
    by_cases h : q = p
    · subst h; rw [u_at, if_neg (by omega), if_pos rfl]
    · rw [u_ne h]
      by_cases h2 : q < p
      · rw [if_pos h2]
      · rw [if_neg h2, if_neg h, if_neg (by omega)]⟩
  | n + 1, p, r, hp => by
    by_cases hc : v (r (p - 1)) < v x
    · obtain ⟨p0, h1, h2, h3, h4⟩ := rk_in_s (v := v) (x := x) n (p - 1) (bc_u r p (r (p - 1))) (by omega)
      refine ⟨p0, by omega, ?_, fun q a b => ?_, fun q => ?_⟩
      · rcases h2 with h2 | h2
        · exact Or.inl h2
        · right; rw [u_ne (by omega)] at h2; exact h2
      · by_cases hq : q = p - 1
        · subst hq; exact hc
        · have := h3 q a (by omega)
          rw [u_ne (by omega)] at this
          exact this
      · simp only [rk_in]
        rw [if_pos hc, h4 q]
        by_cases a : q < p0
        · rw [if_pos a, if_pos a, u_ne (by omega)]
        · rw [if_neg a, if_neg a]
          by_cases b : q = p0
          · rw [if_pos b, if_pos b]
          · rw [if_neg b, if_neg b]
            by_cases c : q ≤ p - 1
            · rw [if_pos c, if_pos (by omega), u_ne (by omega)]
            · rw [if_neg c]
              by_cases d : q = p
              · subst d; rw [u_at, if_pos (by omega)]
              · rw [u_ne d, if_neg (by omega)]
    · refine ⟨p, by omega, Or.inr (by omega), fun q a b => by omega, fun q => ?_⟩
      simp only [rk_in]
      rw [if_neg hc]
      by_cases h : q = p
      · subst h; rw [u_at, if_neg (by omega), if_pos rfl]
      · rw [u_ne h]
        by_cases h2 : q < p
        · rw [if_pos h2]
        · rw [if_neg h2, if_neg h, if_neg (by omega)]
/-- a ranking of x -/
def RK (v : Int → Int) (x : Int) (r : Int → Int) : Prop := (∀ q, 0 ≤ q → q < x → 0 ≤ r q ∧ r q < x) ∧ (∀ i, 0 ≤ i → i < x → ∃ q, 0 ≤ q ∧ q < x ∧ r q = i) ∧ ∀ q q', 0 ≤ q → q < q' → q' < x → rbf v (r q) (r q') = true
theorem rbf_t {v : Int → Int} {a b : Int} : rbf v a b = true ↔ v b < v a ∨ (v a = v b ∧ a < b) := decide_eq_true_iff
theorem RK.le {v : Int → Int} {x : Int} {r : Int → Int} (h : RK v x r) {q q' : Int} (h1 : 0 ≤ q) (h2 : q ≤ q') (h3 : q' < x) : v (r q') ≤ v (r q) := by
  by_cases e : q = q'
  · subst e; omega
  · have := rbf_t.mp (h.2.2 q q' h1 (by omega) h3)
    omega
theorem RK.st {v : Int → Int} {x : Int} {r : Int → Int} (hx : 0 ≤ x) (h : RK v x r) : RK v (x + 1) (rk_in v x x.toNat x r) := by
  obtain ⟨p0, h1, h2, h3, h4⟩ := rk_in_s (v := v) (x := x) x.toNat x r (by omega)
  have hge : ∀ q, 0 ≤ q → q < p0 → v x ≤ v (r q) := fun q a b => by
    rcases h2 with h2 | h2
    · omega
    · have := h.le a (show q ≤ p0 - 1 by omega) (by omega)
      omega
  refine ⟨fun q a b => ?_, fun i a b => ?_, fun q q' a b c => ?_⟩
  · rw [h4 q]
    by_cases c : q < p0
    · rw [if_pos c]; have := h.1 q a (by omega); omega
    · rw [if_neg c]
      by_cases d : q = p0
      · rw [if_pos d]; omega
      · rw [if_neg d, if_pos (by omega)]; have := h.1 (q - 1) (by omega) (by omega); omega
  · by_cases e : i = x
    · subst e; exact ⟨p0, h1.1, by omega, by rw [h4, if_neg (by omega), if_pos rfl]⟩
    · obtain ⟨q, c, d, f⟩ := h.2.1 i a (by omega)
      by_cases g : q < p0
      · exact ⟨q, c, by omega, by rw [h4, if_pos g]; exact f⟩
      · exact ⟨q + 1, by omega, by omega, by rw [h4, if_neg (by omega), if_neg (by omega), if_pos (by omega), show q + 1 - 1 = q by omega]; exact f⟩
  · rw [h4 q, h4 q', rbf_t]
    by_cases d : q' < p0
    · rw [if_pos d, if_pos (by omega)]; exact rbf_t.mp (h.2.2 q q' a b (by omega))
    · rw [if_neg d]
      by_cases e : q' = p0
      · rw [if_pos e, if_pos (by omega)]
        have := hge q a (by omega)
        have := h.1 q a (by omega)
        omega
      · rw [if_neg e, if_pos (by omega)]
        by_cases f : q < p0
        · rw [if_pos f]; exact rbf_t.mp (h.2.2 q (q' - 1) a (by omega) (by omega))
        · rw [if_neg f]
          by_cases g : q = p0
          · rw [if_pos g]; left; exact h3 (q' - 1) (by omega) (by omega)
          · rw [if_neg g, if_pos (by omega)]; exact rbf_t.mp (h.2.2 (q - 1) (q' - 1) (by omega) (by omega) (by omega))
theorem rk_all_s {v : Int → Int} : ∀ (n : Nat) (x : Int) (r : Int → Int), 0 ≤ x → RK v x r → RK v (x + n) (rk_all v n x r)
  | 0, x, r, _, h => by simp only [rk_all]; rw [show x + ((0 : Nat) : Int) = x by omega]; exact h
  | n + 1, x, r, hx, h => by
    simp only [rk_all]
    have := rk_all_s (v := v) n (x + 1) _ (by omega) (h.st hx)
    rw [show x + 1 + (n : Int) = x + ((n + 1 : Nat) : Int) by omega] at this
    exact this
theorem rk_RK {v : Int → Int} {N : Int} {r : Int → Int} (hN : 0 ≤ N) : RK v N (rk_all v N.toNat 0 r) := by
  have := rk_all_s (v := v) N.toNat 0 r (by omega) ⟨fun q a b => by omega, fun q a b => by omega, fun q q' a b c => by omega⟩
  rw [show 0 + ((N.toNat : Nat) : Int) = N by omega] at this
  exact this
theorem ra_w {v : Int → Int} {i : Int} : ∀ (n : Nat) (o w : Int), ra v i n o w = w + ra v i n o 0
  | 0, o, w => by simp only [ra]; omega
  | n + 1, o, w => by
    simp only [ra]
    rw [ra_w n (o + 1) (if rbf v o i = true then w + 1 else w), ra_w n (o + 1) (if rbf v o i = true then 0 + 1 else 0)]
    split <;> omega
/-- one more is ahead -/
theorem ra_st {v : Int → Int} {i j : Int} : ∀ (n : Nat) (o : Int), (∀ q, o ≤ q → q < o + n → (rbf v q j = true ↔ rbf v q i = true ∨ q = i)) → rbf v i i = false → ra v j n o 0 = ra v i n o 0 + (if o ≤ i ∧ i < o + n then 1 else 0)
  | 0, o, _, _ => by simp only [ra]; rw [if_neg (by omega)]; omega
  | n + 1, o, h, hi => by
    simp only [ra]
    rw [ra_w n (o + 1) (if rbf v o j = true then 0 + 1 else 0), ra_w n (o + 1) (if rbf v o i = true then 0 + 1 else 0), ra_st n (o + 1) (fun q a b => h q (by omega) (by omega)) hi]
    have h0 := h o (by omega) (by omega)
    by_cases e : o = i
    · subst e
      rw [if_pos (h0.mpr (Or.inr rfl)), if_neg (show ¬ rbf v o o = true by rw [hi]; decide), if_neg (show ¬ (o + 1 ≤ o ∧ o < o + 1 + n) by omega), if_pos (by omega)]
      omega
    · by_cases f : rbf v o i = true
      · rw [if_pos (h0.mpr (Or.inl f)), if_pos f]
        by_cases g : o + 1 ≤ i ∧ i < o + 1 + n
        · rw [if_pos g, if_pos (by omega)]; omega
        · rw [if_neg g, if_neg (by omega)]; omega
      · rw [if_neg (fun q => (h0.mp q).elim f e), if_neg f]
        by_cases g : o + 1 ≤ i ∧ i < o + 1 + n
        · rw [if_pos g, if_pos (by omega)]; omega
        · rw [if_neg g, if_neg (by omega)]; omega
theorem ra_0 {v : Int → Int} {i : Int} : ∀ (n : Nat) (o : Int), (∀ q, o ≤ q → q < o + n → rbf v q i = false) → ra v i n o 0 = 0
  | 0, o, _ => rfl
  | n + 1, o, h => by
    simp only [ra]
    rw [if_neg (by rw [h o (by omega) (by omega)]; decide)]
    exact ra_0 n (o + 1) (fun q a b => h q (by omega) (by omega))
theorem rbf_irr {v : Int → Int} {i : Int} : rbf v i i = false := decide_eq_false (by omega)
theorem RK.cnt {v : Int → Int} {N : Int} {r : Int → Int} (h : RK v N r) : ∀ (p : Nat), (p : Int) < N → ra v (r p) N.toNat 0 0 = p
  | 0, hp => by
    refine ra_0 N.toNat 0 (fun q a b => decide_eq_false ?_)
    obtain ⟨q', c, d, e⟩ := h.2.1 q a (by omega)
    rw [← e]
    by_cases f : q' = 0
    · subst f; simp only [Int.natCast_zero]; omega
    · have := rbf_t.mp (h.2.2 0 q' (by omega) (by omega) d)
      simp only [Int.natCast_zero]
      omega
  | p + 1, hp => by
    have ih := h.cnt p (by omega)
    have hr := h.1 p (by omega) (by omega)
    have hb := rbf_t.mp (h.2.2 p ((p + 1 : Nat) : Int) (by omega) (by omega) hp)
    rw [ra_st (i := r p) N.toNat 0 (fun q a b => ?_) rbf_irr, ih, if_pos (by omega)]
    · omega
    · obtain ⟨q', c, d, e⟩ := h.2.1 q a (by omega)
      rw [← e]
      constructor
      · intro f
        by_cases g : q' = p
        · subst g; exact Or.inr rfl
        · left
          by_cases k : q' < p
          · exact h.2.2 q' p c k (by omega)
          · exfalso
            have f2 := rbf_t.mp f
            by_cases m : q' = ((p + 1 : Nat) : Int)
            · subst m; omega
            · have := rbf_t.mp (h.2.2 ((p + 1 : Nat) : Int) q' (by omega) (by omega) d)
              omega
      · rintro (f | f)
        · rw [rbf_t] at f ⊢
          omega
        · rw [rbf_t, f]
          exact hb
theorem rf_s {v : Int → Int} {N p i0 : Int} (h0 : 0 ≤ i0 ∧ i0 < N) (h : ra v i0 N.toNat 0 0 = p) (hu : ∀ i, 0 ≤ i → i < N → ra v i N.toNat 0 0 = p → i = i0) : ∀ (n : Nat) (i : Int), 0 ≤ i → i ≤ i0 → i + n = N → rf v N p n i = i0
  | 0, i, a, b, c => by omega
  | n + 1, i, a, b, c => by
    simp only [rf]
    by_cases e : ra v i N.toNat 0 0 = p
    · rw [if_pos e]; exact hu i a (by omega) e
    · rw [if_neg e]
      refine rf_s h0 h hu n (i + 1) (by omega) ?_ (by omega)
      have : i ≠ i0 := fun q => by subst q; exact e h
      omega
theorem rf_no {v : Int → Int} {N p : Int} : ∀ (n : Nat) (i : Int), 0 ≤ i → i + n = N → (∀ i, 0 ≤ i → i < N → ra v i N.toNat 0 0 ≠ p) → rf v N p n i = -1
  | 0, i, _, _, _ => rfl
  | n + 1, i, a, b, h => by
    simp only [rf]
    rw [if_neg (h i a (by omega))]
    exact rf_no n (i + 1) (by omega) (by omega) h
/-- both rankings are the same -/
theorem rf_rk {v : Int → Int} {N p : Int} {r : Int → Int} (h : RK v N r) (hp : 0 ≤ p ∧ p < N) : rf v N p N.toNat 0 = r p := by
  have hc := h.cnt p.toNat (by omega)
  rw [show ((p.toNat : Nat) : Int) = p by omega] at hc
  have hr := h.1 p hp.1 hp.2
  refine rf_s hr hc (fun i a b c => ?_) N.toNat 0 (by omega) (by omega) (by omega)
  obtain ⟨q, d, e, f⟩ := h.2.1 i a b
  have h2 := h.cnt q.toNat (by omega)
  rw [show ((q.toNat : Nat) : Int) = q by omega, f, c] at h2
  rw [← f, h2]
theorem rf_out {v : Int → Int} {N p : Int} {r : Int → Int} (h : RK v N r) (hN : 0 ≤ N) (hp : N ≤ p) : rf v N p N.toNat 0 = -1 := by
  refine rf_no N.toNat 0 (by omega) (by omega) (fun i a b c => ?_)
  obtain ⟨q, d, e, f⟩ := h.2.1 i a b
  have h2 := h.cnt q.toNat (by omega)
  rw [show ((q.toNat : Nat) : Int) = q by omega, f, c] at h2
  omega
