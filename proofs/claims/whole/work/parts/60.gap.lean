def mx (h : Int → Int) : Nat → Int → Int → Int
  | 0, _, w => w
  | n + 1, a, w => mx h n (a + 1) (max w (h a))
theorem mx_max {h : Int → Int} : ∀ (n : Nat) (a w c : Int), mx h n a (max w c) = max (mx h n a w) c
  | 0, _, _, _ => rfl
  | n + 1, a, w, c => by
    simp only [mx]
    rw [show max (max w c) (h a) = max (max w (h a)) c by omega, mx_max n (a + 1)]
theorem mx_last {h : Int → Int} : ∀ (n : Nat) (a w : Int), mx h (n + 1) a w = max (mx h n a w) (h (a + n))
  | 0, a, w => by
    simp only [mx]
    rw [show a + ((0 : Nat) : Int) = a by omega]
  | n + 1, a, w => by
    have := mx_last (h := h) n (a + 1) (max w (h a))
    simp only [mx] at this ⊢
    rw [this, show a + 1 + (n : Int) = a + ((n + 1 : Nat) : Int) by omega]
theorem mx_c {h h' : Int → Int} : ∀ (n : Nat) (a w : Int), (∀ q, a ≤ q → q < a + n → h q = h' q) → mx h n a w = mx h' n a w
  | 0, _, _, _ => rfl
  | n + 1, a, w, e => by
    simp only [mx]
    rw [e a (by omega) (by omega), mx_c n (a + 1) _ (fun q x y => e q (by omega) (by omega))]
/-- from a time to the next -/
def gp (f : Int → Int) (N len q : Int) : Int := (if q + 1 < N then f (q + 1) else f 0 + len) - f q
theorem sq_gap_mx {f : Int → Int} {N len : Int} : ∀ (n : Nat) (a w : Int), 1 ≤ a → a + n = N → sq_gap f n a w (f (a - 1)) = mx (gp f N len) n (a - 1) w
  | 0, _, _, _, _ => rfl
  | n + 1, a, w, h1, h2 => by
    simp only [sq_gap, mx]
    have e : gp f N len (a - 1) = f a - f (a - 1) := by
      unfold gp
      rw [if_pos (by omega), show a - 1 + 1 = a by omega]
    rw [e]
    have := sq_gap_mx (f := f) (N := N) (len := len) n (a + 1) (max w (f a - f (a - 1))) (by omega) (by omega)
    rw [show a + 1 - 1 = a by omega] at this
    rw [this, show a - 1 + 1 = a by omega]
theorem sq_gap_all {f : Int → Int} {N len : Int} (hN : 1 ≤ N) : sq_gap f N.toNat 0 0 (f (max 0 (N - 1)) - len) = mx (gp f N len) N.toNat 0 0 := by
  rw [show N.toNat = (N - 1).toNat + 1 by omega, mx_last]
  simp only [sq_gap]
  have h1 := sq_gap_mx (f := f) (N := N) (len := len) (N - 1).toNat 1 (max 0 (f 0 - (f (max 0 (N - 1)) - len))) (by omega) (by omega)
  rw [show (1 : Int) - 1 = 0 from rfl] at h1
  rw [show (0 : Int) + 1 = 1 from rfl, h1, mx_max, show (0 : Int) + (((N - 1).toNat : Nat) : Int) = N - 1 by omega]
  have e : gp f N len (N - 1) = f 0 - (f (max 0 (N - 1)) - len) := by
    unfold gp
    rw [if_neg (by omega), show max 0 (N - 1) = N - 1 by omega]
    omega
  rw [e]
theorem mod_lo {u len : Int} (a : 0 ≤ u) (b : u < len) : u % len = u := Int.emod_eq_of_lt a b
theorem mod_hi {u len : Int} (a : len ≤ u) (b : u < 2 * len) : u % len = u - len := by
  have := Int.add_mul_emod_self_left (u - len) len 1
  rw [Int.mul_one, Int.sub_add_cancel] at this
  rw [this]
  exact Int.emod_eq_of_lt (by omega) (by omega)
section GAP
variable {p f : Int → Int} {x N len : Int}
/-- the gap behind a time, as the model finds it -/
theorem far_gap (hl : 1 ≤ len) (hN : 1 ≤ N) (hm : ∀ q q', 0 ≤ q → q < q' → q' < N → f q < f q') (hf : ∀ q, 0 ≤ q → q < N → 0 ≤ f q ∧ f q < len) (hO : ∀ t, 0 ≤ t → t < len → (p t = x ↔ ∃ q, 0 ≤ q ∧ q < N ∧ t = f q)) {q : Int} (hq : 0 ≤ q ∧ q < N) : sp_far p x len ((f q + 1) % len) + 1 = gp f N len q := by
  have h0 := hf 0 (by omega) (by omega)
  have hqf := hf q hq.1 hq.2
  have hle : ∀ q q', 0 ≤ q → q ≤ q' → q' < N → f q ≤ f q' := fun q q' a b c => by
    by_cases h : q = q'
    · rw [h]; omega
    · have := hm q q' a (by omega) c; omega
  have hs : 0 ≤ (f q + 1) % len ∧ (f q + 1) % len < len := ⟨Int.emod_nonneg _ (by omega), Int.emod_lt_of_pos _ (by omega)⟩
  have n1 := far_s (p := p) (x := x) hl hs h0 ((hO _ h0.1 h0.2).mpr ⟨0, by omega, by omega, rfl⟩)
  have n2 := nxt_iff hl hO n1
  have hmm : ∀ d, ((f q + 1) % len + d) % len = (f q + 1 + d) % len := fun d => by rw [Int.emod_add_emod]
  have hgp : 1 ≤ gp f N len q ∧ f q + gp f N len q < 2 * len := by
    unfold gp
    split
    · have := hm q (q + 1) hq.1 (by omega) (by omega)
      have := hf (q + 1) (by omega) (by omega)
      omega
    · omega
  have n3 : nxt (fun t => ∃ q, 0 ≤ q ∧ q < N ∧ t = f q) len ((f q + 1) % len) (gp f N len q - 1) := by
    refine ⟨by omega, ?_, fun e a b => ?_⟩
    · rw [hmm, show f q + 1 + (gp f N len q - 1) = f q + gp f N len q by omega]
      unfold gp
      by_cases hc : q + 1 < N
      · rw [if_pos hc]
        have := hf (q + 1) (by omega) hc
        refine ⟨q + 1, by omega, hc, ?_⟩
        rw [mod_lo (by omega) (by omega)]
        omega
      · rw [if_neg hc]
        refine ⟨0, by omega, by omega, ?_⟩
        rw [mod_hi (by omega) (by omega)]
        omega
    · rw [hmm]
      rintro ⟨r, x1, x2, x3⟩
      unfold gp at b
      by_cases hc : q + 1 < N
      · rw [if_pos hc] at b
        have := hf (q + 1) (by omega) hc
        rw [mod_lo (by omega) (by omega)] at x3
        by_cases hr : r ≤ q
        · have := hle r q x1 hr hq.2; omega
        · have := hle (q + 1) r (by omega) (by omega) x2; omega
      · rw [if_neg hc] at b
        by_cases hu : f q + 1 + e < len
        · rw [mod_lo (by omega) hu] at x3
          have := hle r q x1 (by omega) hq.2
          omega
        · rw [mod_hi (by omega) (by omega)] at x3
          have := hle 0 r (by omega) x1 x2
          omega
  have := nxt_u n2 n3
  omega
theorem gpn_s (hl : 1 ≤ len) (hN : 1 ≤ N) (hm : ∀ q q', 0 ≤ q → q < q' → q' < N → f q < f q') (hf : ∀ q, 0 ≤ q → q < N → 0 ≤ f q ∧ f q < len) (hO : ∀ t, 0 ≤ t → t < len → (p t = x ↔ ∃ q, 0 ≤ q ∧ q < N ∧ t = f q)) : ∀ (n : Nat) (t k w : Int), 0 ≤ t → t + n = len → bef f N t k → gpn p x len n t w = mx (gp f N len) (N - k).toNat k w
  | 0, t, k, w, h1, h2, h => by
    obtain ⟨a, b, c⟩ := h
    have hk : k = N := by
      apply Decidable.byContradiction
      intro hne
      have := c k (by omega) (by omega)
      have := hf k (by omega) (by omega)
      omega
    subst hk
    rw [show (k - k).toNat = 0 by omega]
    rfl
  | n + 1, t, k, w, h1, h2, h => by
    simp only [gpn]
    by_cases hp : p t = x
    · obtain ⟨q, a, b, c⟩ := (hO t h1 (by omega)).mp hp
      obtain ⟨e, h'⟩ := bef_yes hm h ⟨a, b⟩ c
      subst e
      rw [if_pos hp, c, far_gap hl hN hm hf hO ⟨a, b⟩, ← c]
      rw [gpn_s hl hN hm hf hO n (t + 1) (q + 1) _ (by omega) (by omega) h', show (N - q).toNat = (N - (q + 1)).toNat + 1 by omega]
      rfl
    · rw [if_neg hp]
      exact gpn_s hl hN hm hf hO n (t + 1) k w (by omega) (by omega) (bef_no h (fun q => hp ((hO t h1 (by omega)).mpr q)))
end GAP
section GAPM
variable {dk fr : Int → Int} {nd ni sg ln j : Int} {D p : Int → Int} {M : bc_M}
/-- an item's times: in order, in the cycle, and where the model sends it -/
theorem item_f (h : SV dk fr nd ni sg ln) (hB : BR M j dk fr nd ni sg ln) (hg : DI dk fr nd ni D (sp_N dk fr nd ni) 0) (hP : PP D p sg (sp_S dk fr nd ni) ln (sp_S dk fr nd ni + sg * ln) sg (sp_S dk fr nd ni)) {i : Int} (hi : 0 ≤ i ∧ i < ni) : (1 ≤ fr (dk i) ∧ fr (dk i) ≤ 6) ∧ (∀ q q', 0 ≤ q → q < q' → q' < fr (dk i) → M 21 (16 * j + i) q < M 21 (16 * j + i) q') ∧ (∀ q, 0 ≤ q → q < fr (dk i) → 0 ≤ M 21 (16 * j + i) q ∧ M 21 (16 * j + i) q < sp_S dk fr nd ni + sg * ln) ∧ ∀ t, 0 ≤ t → t < sp_S dk fr nd ni + sg * ln → (p t = i ↔ ∃ q, 0 ≤ q ∧ q < fr (dk i) ∧ t = M 21 (16 * j + i) q) := by
  have hpv := (BR.pv h hB).1
  obtain ⟨b0, b1, b2, b3, b4, b5⟩ := hB
  obtain ⟨c1, c2⟩ := b5 i hi.1 hi.2
  have hd := h.2.2.2.2.2 i hi.1 hi.2
  have ht := (hpv.2.2.2.2.2 i hi.1 hi.2).2
  rw [c1, b0] at ht
  refine ⟨h.2.2.2.2.1 (dk i) hd.1 hd.2, fun q q' a b c => ?_, ht, fun t a b => ?_⟩
  · rw [c2 q a (by omega), c2 q' (by omega) c]
    exact sp_T_mono h hi b
  · rw [P_item h hg hP ⟨a, b⟩ hi]
    constructor
    · rintro ⟨q, x, y, z⟩; exact ⟨q, x, y, by rw [c2 q x y]; exact z⟩
    · rintro ⟨q, x, y, z⟩; exact ⟨q, x, y, by rw [← c2 q x y]; exact z⟩
theorem gap_eq (h : SV dk fr nd ni sg ln) (hB : BR M j dk fr nd ni sg ln) (hg : DI dk fr nd ni D (sp_N dk fr nd ni) 0) (hP : PP D p sg (sp_S dk fr nd ni) ln (sp_S dk fr nd ni + sg * ln) sg (sp_S dk fr nd ni)) {i : Int} (hi : 0 ≤ i ∧ i < ni) : gpn p i (sp_S dk fr nd ni + sg * ln) (sp_S dk fr nd ni + sg * ln).toNat 0 0 = pg_gap M j i ∧ tmn p i (sp_S dk fr nd ni + sg * ln).toNat 0 0 = M 19 j i := by
  obtain ⟨hf, hm, hr, hO⟩ := item_f h hB hg hP hi
  have hcy := (BR.pv h hB).1.1
  obtain ⟨b0, b1, b2, b3, b4, b5⟩ := hB
  obtain ⟨c1, c2⟩ := b5 i hi.1 hi.2
  rw [b0] at hcy
  have hb : bef (M 21 (16 * j + i)) (fr (dk i)) 0 0 := ⟨by omega, fun q a b => by omega, fun q a b => (hr q a b).1⟩
  constructor
  · rw [gpn_s (by omega) hf.1 hm hr hO _ 0 0 0 (by omega) (by omega) hb]
    unfold pg_gap pg_last
    rw [c1, b0, sq_gap_all hf.1, show fr (dk i) - 0 = fr (dk i) by omega]
  · rw [tmn_s hm hr hO _ 0 0 (by omega) (by omega) hb, c1]
end GAPM
