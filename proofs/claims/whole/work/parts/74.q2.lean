theorem tb_sub : ∀ (r n k : Nat), n.testBit r = true → (n - 2 ^ r).testBit k = (n.testBit k && !decide (k = r))
  | 0, n, k, h => by
    rw [Nat.testBit_zero, decide_eq_true_iff] at h
    cases k with
    | zero =>
      rw [Nat.testBit_zero, Nat.testBit_zero, decide_eq_true (rfl : 0 = 0), Bool.not_true, Bool.and_false, Nat.pow_zero]
      exact decide_eq_false (by omega)
    | succ k =>
      rw [Nat.testBit_succ, Nat.testBit_succ, decide_eq_false (show ¬ k + 1 = 0 by omega), Bool.not_false, Bool.and_true, Nat.pow_zero, show (n - 1) / 2 = n / 2 by omega]
  | r + 1, n, k, h => by
    rw [Nat.testBit_succ] at h
    have hle : 2 ^ r ≤ n / 2 := Nat.ge_two_pow_of_testBit h
    have e : 2 ^ (r + 1) = 2 * 2 ^ r := by rw [Nat.pow_succ]; omega
    cases k with
    | zero =>
      rw [Nat.testBit_zero, Nat.testBit_zero, decide_eq_false (show ¬ 0 = r + 1 by omega), Bool.not_false, Bool.and_true, e, show (n - 2 * 2 ^ r) % 2 = n % 2 by omega]
    | succ k =>
      rw [Nat.testBit_succ, Nat.testBit_succ, e, show (n - 2 * 2 ^ r) / 2 = n / 2 - 2 ^ r by omega, tb_sub r (n / 2) k h, show decide (k + 1 = r + 1) = decide (k = r) from by by_cases q : k = r <;> simp [q]]
theorem bs_sub_in {s i k : Int} (hs : 0 ≤ s) (hi : 0 ≤ i) (hk : 0 ≤ k) (hb : bs s i = true) : bs (s - ((2 ^ i.toNat : Nat) : Int)) k = (bs s k && !decide (k = i)) := by
  unfold bs at hb ⊢
  have hle : 2 ^ i.toNat ≤ s.toNat := Nat.ge_two_pow_of_testBit hb
  rw [show (s - ((2 ^ i.toNat : Nat) : Int)).toNat = s.toNat - 2 ^ i.toNat by omega, tb_sub _ _ _ hb]
  congr 2
  by_cases q : k = i
  · subst q; simp
  · rw [decide_eq_false q]; exact decide_eq_false (by omega)
/-- a client behind a request is in order -/
theorem QI.st {cap pol ni n i nd sg ln : Int} {pop dk fr g : Int → Int} {W L : Int → Int → Int} (hv : SV dk fr nd ni sg ln) (h : QI g ni n) (hi : 0 ≤ i ∧ i < ni) (hW : 0 ≤ W i (g 0) ∧ W i (g 0) ≤ 9000) (hL : 0 ≤ L i (g 0) ∧ L i (g 0) ≤ 9000) : QI (qG cap pol ni pop dk fr W L g i) ni (n + 1) := by
  have hni := hv.2.1
  obtain ⟨h1, h2, h3, h4, h5, h6, h7, h8⟩ := id h
  unfold qG
  by_cases hb : bs (g 5) i = true
  · rw [if_pos hb]
    have e0 : ∀ f, f ≠ 1 → f ≠ 6 + i → f ≠ 22 + i → bc_u (q1 g i) 1 (g 1 + 1) f = g f := fun f a b c => by rw [u_ne a, q1_v b c]
    unfold QI
    rw [e0 0 (by omega) (by omega) (by omega), e0 2 (by omega) (by omega) (by omega), e0 3 (by omega) (by omega) (by omega), e0 4 (by omega) (by omega) (by omega), e0 5 (by omega) (by omega) (by omega), u_at]
    refine ⟨by omega, by omega, by omega, by omega, h5, fun x a b => ?_, h7, fun x y a b c d e f hn => ?_⟩
    · rw [u_ne (by omega), u_ne (by omega)]
      have := h6 x a b
      by_cases hx : x = i
      · subst hx; rw [q1_o (by omega), q1_l]; omega
      · rw [q1_v (f := 6 + x) (by omega) (by omega), q1_v (f := 22 + x) (by omega) (by omega)]; omega
    · rw [u_ne (by omega), u_ne (by omega)]
      have k1 : bs (bs_add (g 5) i) x = true := by rw [bs_add_in hi.1 a, e, Bool.true_or]
      have k2 : bs (bs_add (g 5) i) y = true := by rw [bs_add_in hi.1 c, f, Bool.true_or]
      exact q1_d h (by omega) ⟨a, b⟩ ⟨c, d⟩ k1 k2 hn
  · rw [if_neg hb]
    have e0 : ∀ f, f ≠ 0 → f ≠ 2 → f ≠ 3 → f ≠ 4 → f ≠ 5 → bc_u (bc_u (bc_u (bc_u (bc_u (q1 g i) 2 (g 2 + 1)) 3 (g 3 + W i (g 0))) 4 (g 4 + L i (g 0))) 0 (g 0 + W i (g 0))) 5 (qc cap pol ni pop dk fr g i) f = q1 g i f := fun f a b c d e => by rw [u_ne e, u_ne a, u_ne d, u_ne c, u_ne b]
    have hsr := bs_add_rng (s := g 5) (i := i) (n := 16) (by omega) (by omega)
    have hqc : (0 ≤ qc cap pol ni pop dk fr g i ∧ qc cap pol ni pop dk fr g i < 65536) ∧ ∀ x, 0 ≤ x → bs (qc cap pol ni pop dk fr g i) x = true → bs (bs_add (g 5) i) x = true := by
      unfold qc
      by_cases hc : bs_cnt (bs_add (g 5) i) 16 ≤ cap
      · rw [if_pos hc]; exact ⟨hsr, fun x a b => b⟩
      · rw [if_neg hc]
        have hq := qv_in (pol := pol) (pop := pop) hv h hi hc
        refine ⟨bs_clr_rng hsr (by omega) hq.2, fun x a b => ?_⟩
        rw [bs_sub_in hsr.1 hq.1.1 a hq.2, Bool.and_eq_true] at b
        exact b.1
    unfold QI
    rw [e0 1 (by omega) (by omega) (by omega) (by omega) (by omega), q1_v (f := 1) (by omega) (by omega), u_at]
    rw [u_ne (show (0 : Int) ≠ 5 by decide), u_at]
    rw [u_ne (show (2 : Int) ≠ 5 by decide), u_ne (show (2 : Int) ≠ 0 by decide), u_ne (show (2 : Int) ≠ 4 by decide), u_ne (show (2 : Int) ≠ 3 by decide), u_at]
    rw [u_ne (show (3 : Int) ≠ 5 by decide), u_ne (show (3 : Int) ≠ 0 by decide), u_ne (show (3 : Int) ≠ 4 by decide), u_at]
    rw [u_ne (show (4 : Int) ≠ 5 by decide), u_ne (show (4 : Int) ≠ 0 by decide), u_at]
    refine ⟨by omega, by omega, by omega, by omega, hqc.1, fun x a b => ?_, fun x a b => ?_, fun x y a b c d e f hn => ?_⟩
    · rw [e0 (6 + x) (by omega) (by omega) (by omega) (by omega) (by omega), e0 (22 + x) (by omega) (by omega) (by omega) (by omega) (by omega)]
      have := h6 x a b
      by_cases hx : x = i
      · subst hx; rw [q1_o (by omega), q1_l]; omega
      · rw [q1_v (f := 6 + x) (by omega) (by omega), q1_v (f := 22 + x) (by omega) (by omega)]; omega
    · cases hz : bs (qc cap pol ni pop dk fr g i) x
      · rfl
      · have := hqc.2 x (by omega) hz
        rw [bs_add_in hi.1 (by omega), h7 x a b, Bool.false_or, decide_eq_true_iff] at this
        omega
    · rw [e0 (22 + x) (by omega) (by omega) (by omega) (by omega) (by omega), e0 (22 + y) (by omega) (by omega) (by omega) (by omega) (by omega)]
      exact q1_d h (by omega) ⟨a, b⟩ ⟨c, d⟩ (hqc.2 x a e) (hqc.2 y c f) hn
/-- the class's client x is g -/
def CE (M : bc_M) (x cap pol : Int) (g : Int → Int) : Prop := (M 12 x 0 = cap ∧ M 12 x 1 = pol) ∧ (M 12 x 2 = g 0 ∧ M 12 x 3 = g 1 ∧ M 12 x 4 = g 2 ∧ M 12 x 5 = g 3 ∧ M 12 x 6 = g 4 ∧ M 12 x 7 = g 5 ∧ M 12 x 8 = g 1 + g 2) ∧ ∀ i, 0 ≤ i → i < 16 → M 13 x i = g (6 + i) ∧ M 14 x i = g (22 + i)
theorem cl_less_q {M : bc_M} {x z cap pol a b : Int} {g : Int → Int} (h : CE M x cap pol g) (ha : 0 ≤ a ∧ a < 16) (hb : 0 ≤ b ∧ b < 16) : cl_less M x z a b = ql pol (M 8 z) (M 9 z) (M 7 z) g a b := by
  unfold cl_less ql
  rw [h.1.2, (h.2.2 a ha.1 ha.2).1, (h.2.2 a ha.1 ha.2).2, (h.2.2 b hb.1 hb.2).1, (h.2.2 b hb.1 hb.2).2]
theorem cl_vic_q {M : bc_M} {x z s ni cap pol : Int} {g : Int → Int} (h : CE M x cap pol g) (hni : ni ≤ 16) : ∀ (n : Nat) (i b : Int), 0 ≤ i → i + n = ni → (0 ≤ b ∧ b < ni) → cl_vic M x z s n i b = qw (ql pol (M 8 z) (M 9 z) (M 7 z) g) s n i b
  | 0, _, _, _, _, _ => rfl
  | n + 1, i, b, h1, h2, h3 => by
    simp only [cl_vic, qw]
    rw [cl_less_q h (by omega) (by omega)]
    exact cl_vic_q h hni n (i + 1) _ (by omega) (by omega) (by split <;> omega)
/-- noted -/
theorem CE.n1 {M : bc_M} {x cap pol i : Int} {g : Int → Int} (h : CE M x cap pol g) (hi : 0 ≤ i ∧ i < 16) : (ask1 M x i 12 x 0 = cap ∧ ask1 M x i 12 x 1 = pol) ∧ (ask1 M x i 12 x 2 = g 0 ∧ ask1 M x i 12 x 3 = g 1 ∧ ask1 M x i 12 x 4 = g 2 ∧ ask1 M x i 12 x 5 = g 3 ∧ ask1 M x i 12 x 6 = g 4 ∧ ask1 M x i 12 x 7 = g 5 ∧ ask1 M x i 12 x 8 = g 1 + g 2 + 1) ∧ ∀ y, 0 ≤ y → y < 16 → ask1 M x i 13 x y = q1 g i (6 + y) ∧ ask1 M x i 14 x y = q1 g i (22 + y) := by
  obtain ⟨⟨a1, a2⟩, ⟨b2, b3, b4, b5, b6, b7, b8⟩, h3⟩ := h
  rw [ask1_12, ask1_13, ask1_14, u_at]
  simp only [u_ne (show (0 : Int) ≠ 8 by decide), u_ne (show (1 : Int) ≠ 8 by decide), u_ne (show (2 : Int) ≠ 8 by decide), u_ne (show (3 : Int) ≠ 8 by decide), u_ne (show (4 : Int) ≠ 8 by decide), u_ne (show (5 : Int) ≠ 8 by decide), u_ne (show (6 : Int) ≠ 8 by decide), u_ne (show (7 : Int) ≠ 8 by decide)]
  refine ⟨⟨a1, a2⟩, ⟨b2, b3, b4, b5, b6, b7, by omega⟩, fun y a b => ?_⟩
  have e1 := h3 y a b
  by_cases hy : y = i
  · subst hy; rw [u_at, u_at, q1_o hi, q1_l]; omega
  · rw [u_ne hy, u_ne hy, q1_v (f := 6 + y) (by omega) (by omega), q1_v (f := 22 + y) (by omega) (by omega)]; exact e1
theorem cl_lessp {M M' : bc_M} {x z : Int} (e0 : M' 12 x 1 = M 12 x 1) (e1 : M' 13 x = M 13 x) (e2 : M' 14 x = M 14 x) (e3 : ∀ k, (k = 7 ∨ k = 8 ∨ k = 9) → M' k z = M k z) (a b : Int) : cl_less M' x z a b = cl_less M x z a b := by
  unfold cl_less
  rw [e0, e1, e2, e3 7 (by decide), e3 8 (by decide), e3 9 (by decide)]
theorem cl_vicp {M M' : bc_M} {x z s : Int} (e0 : M' 12 x 1 = M 12 x 1) (e1 : M' 13 x = M 13 x) (e2 : M' 14 x = M 14 x) (e3 : ∀ k, (k = 7 ∨ k = 8 ∨ k = 9) → M' k z = M k z) : ∀ (n : Nat) (i b : Int), cl_vic M' x z s n i b = cl_vic M x z s n i b
  | 0, _, _ => rfl
  | n + 1, i, b => by
    simp only [cl_vic]
    rw [cl_lessp e0 e1 e2 e3]
    exact cl_vicp e0 e1 e2 e3 n _ _
