/-! quotients of whole numbers are no NaN -/
theorem fp_t : FP.Core.b64.tails = 4503599627370496 := by decide +kernel
theorem fp_x : FP.Core.b64.exps = 2048 := by decide +kernel
theorem fp_qn : FP.Core.b64.qmin = -1074 := by decide +kernel
theorem fp_qx : FP.Core.b64.qmax = 971 := by decide +kernel
theorem fp_pp : 2 ^ FP.Core.b64.p = 9007199254740992 := by decide +kernel
theorem fp_as {s : Bool} {e t : Nat} : FP.Core.assemble FP.Core.b64 s e t % 9223372036854775808 = (e * 4503599627370496 + t) % 9223372036854775808 := by
  unfold FP.Core.assemble
  rw [fp_t, fp_x]
  cases s
  · simp only [Bool.toNat_false]; omega
  · simp only [Bool.toNat_true]; omega
/-- what is not too great has no NaN's bits -/
theorem fp_enc {s : Bool} {c : Nat} {q : Int} (hc : c < 9007199254740992) (hq : q ≤ 971) : FP.Core.encode FP.Core.b64 (.fin s c q) % 9223372036854775808 < 9218868437227405312 ∧ (0 < c → FP.Core.encode FP.Core.b64 (.fin s c q) % 9223372036854775808 ≠ 0) := by
  simp only [FP.Core.encode]
  rw [fp_t, fp_qn]
  by_cases h : c < 4503599627370496
  · rw [if_pos h, fp_as]; omega
  · rw [if_neg h, fp_as]; omega
theorem fp_inf {s : Bool} : FP.Core.encode FP.Core.b64 (.inf s) % 9223372036854775808 = 9218868437227405312 := by
  simp only [FP.Core.encode]
  rw [fp_as, fp_x]
theorem fp_set {s : Bool} {c : Nat} {q : Int} : FP.Core.encode FP.Core.b64 (FP.Core.settle FP.Core.b64 s c q) % 9223372036854775808 ≤ 9218868437227405312 := by
  unfold FP.Core.settle FP.Core.bound
  rw [fp_pp, fp_qx, fp_t]
  by_cases h : c < 9007199254740992
  · rw [if_pos h]
    by_cases h2 : q ≤ 971
    · rw [if_pos h2]; have := (fp_enc (s := s) h h2).1; omega
    · rw [if_neg h2, fp_inf]; omega
  · rw [if_neg h]
    by_cases h2 : q + 1 ≤ 971
    · rw [if_pos h2]; have := (fp_enc (s := s) (c := 4503599627370496) (by omega) h2).1; omega
    · rw [if_neg h2, fp_inf]; omega
theorem fp_set2 {s : Bool} {c : Nat} {q : Int} (hq : q ≤ 900) : FP.Core.encode FP.Core.b64 (FP.Core.settle FP.Core.b64 s c q) % 9223372036854775808 < 9218868437227405312 ∧ (0 < c → FP.Core.encode FP.Core.b64 (FP.Core.settle FP.Core.b64 s c q) % 9223372036854775808 ≠ 0) := by
  unfold FP.Core.settle FP.Core.bound
  rw [fp_pp, fp_qx, fp_t]
  by_cases h : c < 9007199254740992
  · rw [if_pos h, if_pos (by omega)]; exact fp_enc h (by omega)
  · rw [if_neg h, if_pos (by omega)]
    have := fp_enc (s := s) (c := 4503599627370496) (q := q + 1) (by omega) (by omega)
    exact ⟨this.1, fun _ => this.2 (by omega)⟩
theorem fp_dec {n : Nat} (h : n % 9223372036854775808 < 9218868437227405312) : ∃ s c q, FP.Core.decode FP.Core.b64 n = .fin s c q ∧ (n % 9223372036854775808 ≠ 0 → c ≠ 0) := by
  unfold FP.Core.decode FP.Core.fieldE FP.Core.fieldT
  rw [fp_t, fp_x]
  rw [if_neg (by omega)]
  by_cases h2 : n / 4503599627370496 % 2048 = 0
  · rw [if_pos h2]; exact ⟨_, _, _, rfl, fun h3 => by omega⟩
  · rw [if_neg h2]; exact ⟨_, _, _, rfl, fun h3 => by omega⟩
theorem fp_of {n : Nat} : (UInt64.ofNat n).toNat % 9223372036854775808 = n % 9223372036854775808 := by
  rw [UInt64.toNat_ofNat']
  omega
theorem fp_n64 {n : Nat} (h : n % 9223372036854775808 ≤ 9218868437227405312) : vf_n64 (UInt64.ofNat n) := by
  unfold vf_n64
  rw [UInt64.le_iff_toNat_le, UInt64.toNat_and]
  have e1 : (0x7fffffffffffffff : UInt64).toNat = 2 ^ 63 - 1 := by decide
  have e2 : (0x7ff0000000000000 : UInt64).toNat = 9218868437227405312 := by decide
  rw [e1, e2, Nat.and_two_pow_sub_one_eq_mod]
  have := fp_of (n := n)
  rw [show (2 : Nat) ^ 63 = 9223372036854775808 by decide, this]
  exact h
/-- a whole number -/
theorem fp_int {i : Int} (h : i.natAbs < 9007199254740992) : FP.Core.fromInt FP.Core.b64 i % 9223372036854775808 < 9218868437227405312 ∧ (i ≠ 0 → FP.Core.fromInt FP.Core.b64 i % 9223372036854775808 ≠ 0) := by
  unfold FP.Core.fromInt FP.Core.ofInt
  simp only [FP.Core.round, FP.Core.roundRatio]
  by_cases h0 : i.natAbs = 0
  · rw [if_pos h0, fp_qn]
    exact ⟨(fp_enc (by omega) (by omega)).1, fun h1 => absurd (by omega : i = 0) h1⟩
  · rw [if_neg h0]
    unfold FP.Core.roundAt
    have hl : i.natAbs.log2 < 53 := by
      rw [Nat.log2_lt h0]
      exact h
    have hlog1 : Nat.log2 1 = 0 := by decide
    have hq : FP.Core.quantum FP.Core.b64 i.natAbs 1 0 ≤ 0 := by
      unfold FP.Core.quantum FP.Core.leading
      rw [fp_qn, hlog1, show FP.Core.b64.p = 53 from rfl]
      simp only []
      split <;> omega
    have hd : FP.Core.unitsDen 1 0 (FP.Core.quantum FP.Core.b64 i.natAbs 1 0) = 1 := by
      unfold FP.Core.unitsDen
      rw [show (FP.Core.quantum FP.Core.b64 i.natAbs 1 0 - 0).toNat = 0 by omega]
    have hn : 0 < FP.Core.nearest (FP.Core.unitsNum i.natAbs 0 (FP.Core.quantum FP.Core.b64 i.natAbs 1 0)) (FP.Core.unitsDen 1 0 (FP.Core.quantum FP.Core.b64 i.natAbs 1 0)) := by
      rw [hd]
      unfold FP.Core.nearest
      rw [Nat.mod_one, if_pos (by omega), Nat.div_one]
      unfold FP.Core.unitsNum
      exact Nat.mul_pos (by omega) (Nat.two_pow_pos _)
    have := fp_set2 (s := decide (i < 0)) (c := FP.Core.nearest (FP.Core.unitsNum i.natAbs 0 (FP.Core.quantum FP.Core.b64 i.natAbs 1 0)) (FP.Core.unitsDen 1 0 (FP.Core.quantum FP.Core.b64 i.natAbs 1 0))) (q := FP.Core.quantum FP.Core.b64 i.natAbs 1 0) (by omega)
    exact ⟨this.1, fun _ => this.2 hn⟩
theorem fp_div {x y : UInt64} (hx : x.toNat % 9223372036854775808 < 9218868437227405312) (hy : y.toNat % 9223372036854775808 < 9218868437227405312) (hz : y.toNat % 9223372036854775808 ≠ 0) : vf_n64 (FP.ddiv x y) := by
  obtain ⟨s, c, q, e1, _⟩ := fp_dec hx
  obtain ⟨t, d, r, e2, hd⟩ := fp_dec hy
  show vf_n64 (UInt64.ofNat (FP.Core.div FP.Core.b64 x.toNat y.toNat))
  unfold FP.Core.div
  rw [e1, e2]
  simp only [FP.Core.quotient]
  rw [if_neg (hd hz)]
  apply fp_n64
  unfold FP.Core.roundRatio
  by_cases h : c = 0
  · rw [if_pos h]; have := (fp_enc (s := s != t) (c := 0) (q := FP.Core.b64.qmin) (by omega) (by rw [fp_qn]; omega)).1; omega
  · rw [if_neg h]; exact fp_set
theorem fp_i2d {a : Int} (h : -2147483648 ≤ a ∧ a < 2147483648) : (FP.i2d (Int32.ofInt a)).toNat % 9223372036854775808 < 9218868437227405312 ∧ (a ≠ 0 → (FP.i2d (Int32.ofInt a)).toNat % 9223372036854775808 ≠ 0) := by
  show (UInt64.ofNat (FP.Core.fromInt FP.Core.b64 (Int32.ofInt a).toInt)).toNat % 9223372036854775808 < 9218868437227405312 ∧ (a ≠ 0 → (UInt64.ofNat (FP.Core.fromInt FP.Core.b64 (Int32.ofInt a).toInt)).toNat % 9223372036854775808 ≠ 0)
  rw [fp_of, bc_toInt h]
  exact fp_int (by omega)
theorem fp_l2d {a : Int} (h : -2147483648 ≤ a ∧ a < 2147483648) : FP.l2d (Int64.ofInt a) = FP.i2d (Int32.ofInt a) := by
  show UInt64.ofNat (FP.Core.fromInt FP.Core.b64 (Int64.ofInt a).toInt) = UInt64.ofNat (FP.Core.fromInt FP.Core.b64 (Int32.ofInt a).toInt)
  rw [bc_toInt h, Int64.toInt_ofInt_of_le (by omega) (by omega)]
/-- the quotient of two whole numbers -/
def dqt (a b : Int) : UInt64 := FP.ddiv (FP.i2d (Int32.ofInt a)) (FP.i2d (Int32.ofInt b))
theorem dqt_n {a b : Int} (ha : -2147483648 ≤ a ∧ a < 2147483648) (hb : 1 ≤ b ∧ b < 2147483648) : vf_n64 (FP.ddiv (FP.i2d (Int32.ofInt a)) (FP.i2d (Int32.ofInt b))) := fp_div (fp_i2d ha).1 (fp_i2d (by omega)).1 ((fp_i2d (by omega)).2 (by omega))
