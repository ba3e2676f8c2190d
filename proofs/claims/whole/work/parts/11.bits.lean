/-! bits of sets, as numbers -/
theorem bs_s_l : ∀ n, n < 32 → ((nI n &&& 31).toBitVec.smod 32).toNat = n := by decide +kernel
theorem bs_and0 (a b : Nat) : nI a &&& nI b = nI (a &&& b) := by
  apply Int32.toBitVec_inj.1
  show BitVec.ofNat 32 a &&& BitVec.ofNat 32 b = BitVec.ofNat 32 (a &&& b)
  apply BitVec.eq_of_getLsbD_eq
  intro i hi
  simp [hi]
theorem bs_or0 (a b : Nat) : nI a ||| nI b = nI (a ||| b) := by
  apply Int32.toBitVec_inj.1
  show BitVec.ofNat 32 a ||| BitVec.ofNat 32 b = BitVec.ofNat 32 (a ||| b)
  apply BitVec.eq_of_getLsbD_eq
  intro i hi
  simp [hi]
theorem bs_of {x : Int} (h : 0 ≤ x ∧ x < 2147483648) : Int32.ofInt x = nI x.toNat := by
  apply Int32.toInt_inj.mp
  rw [bc_toInt ⟨by omega, h.2⟩, nI_toInt (by omega), Int.toNat_of_nonneg h.1]
theorem bs_toInt {n : Nat} (h : n < 2147483648) : (nI n).toInt = (n : Int) := nI_toInt (by omega)
theorem bs_shr {s i : Int} (hs : 0 ≤ s ∧ s < 2147483648) (hi : 0 ≤ i ∧ i < 32) : bx_shr s i = ((s.toNat / 2 ^ i.toNat : Nat) : Int) := by
  unfold bx_shr
  rw [bs_of hs, bs_of (x := i) ⟨hi.1, by omega⟩, pk_shrN (k := i.toNat) (by omega) _ (bs_s_l _ (by omega))]
  have h1 : s.toNat / 2 ^ i.toNat ≤ s.toNat := Nat.div_le_self _ _
  exact bs_toInt (by omega)
theorem bs_and1 {n : Nat} (h : n < 2147483648) : bx_and (n : Int) 1 = ((n % 2 : Nat) : Int) := by
  unfold bx_and
  rw [bs_of (x := (n : Int)) ⟨by omega, by omega⟩, Int.toNat_natCast, show Int32.ofInt 1 = (1 : Int32) from rfl, pk_andN (m := 1) (by omega) 1 (by decide)]
  exact bs_toInt (by omega)
/-- is k in the set s -/
def bs (s k : Int) : Bool := s.toNat.testBit k.toNat
theorem bs_bit {s i : Int} (hs : 0 ≤ s ∧ s < 2147483648) (hi : 0 ≤ i ∧ i < 32) : bx_and (bx_shr s i) 1 = if bs s i then 1 else 0 := by
  have h1 : s.toNat / 2 ^ i.toNat ≤ s.toNat := Nat.div_le_self _ _
  rw [bs_shr hs hi, bs_and1 (by omega), bs, Nat.testBit_eq_decide_div_mod_eq]
  have h2 : s.toNat / 2 ^ i.toNat % 2 = 0 ∨ s.toNat / 2 ^ i.toNat % 2 = 1 := by omega
  rcases h2 with h2 | h2 <;> simp [h2]
theorem bs_shl1 {i : Int} (hi : 0 ≤ i ∧ i < 31) : bx_shl 1 i = ((2 ^ i.toNat : Nat) : Int) := by
  unfold bx_shl
  have hp : 2 ^ i.toNat ≤ 2 ^ 30 := Nat.pow_le_pow_right (by omega) (by omega)
  rw [show Int32.ofInt 1 = nI 1 from rfl, bs_of (x := i) ⟨hi.1, by omega⟩, pk_shlN (n := 1) _ i.toNat (bs_s_l _ (by omega)) (by omega), Nat.one_mul]
  exact bs_toInt (by omega)
theorem bs_or {a b : Nat} (ha : a < 2147483648) (hb : b < 2147483648) : bx_or (a : Int) (b : Int) = ((a ||| b : Nat) : Int) := by
  unfold bx_or
  rw [bs_of (x := (a : Int)) ⟨by omega, by omega⟩, bs_of (x := (b : Int)) ⟨by omega, by omega⟩, Int.toNat_natCast, Int.toNat_natCast, bs_or0]
  have h := Nat.or_lt_two_pow (x := a) (y := b) (n := 31) (by omega) (by omega)
  exact bs_toInt (by omega)
theorem bs_and {a b : Nat} (ha : a < 2147483648) (hb : b < 2147483648) : bx_and (a : Int) (b : Int) = ((a &&& b : Nat) : Int) := by
  unfold bx_and
  rw [bs_of (x := (a : Int)) ⟨by omega, by omega⟩, bs_of (x := (b : Int)) ⟨by omega, by omega⟩, Int.toNat_natCast, Int.toNat_natCast, bs_and0]
  have h : a &&& b ≤ a := Nat.and_le_left
  exact bs_toInt (by omega)
/-- the set with k added -/
def bs_add (s k : Int) : Int := ((s.toNat ||| 2 ^ k.toNat : Nat) : Int)
theorem bs_or_shl {s i : Int} (hs : 0 ≤ s ∧ s < 2147483648) (hi : 0 ≤ i ∧ i < 31) : bx_or s (bx_shl 1 i) = bs_add s i := by
  have hp : 2 ^ i.toNat ≤ 2 ^ 30 := Nat.pow_le_pow_right (by omega) (by omega)
  rw [bs_shl1 hi]
  have h : s = (s.toNat : Int) := by omega
  rw [h, bs_or (by omega) (by omega), bs_add, Int.toNat_natCast]
theorem bs_add_in {s i k : Int} (hi : 0 ≤ i) (hk : 0 ≤ k) : bs (bs_add s i) k = (bs s k || decide (k = i)) := by
  unfold bs bs_add
  rw [Int.toNat_natCast, Nat.testBit_or, Nat.testBit_two_pow]
  congr 1
  by_cases h : k = i
  · subst h; simp
  · simp [h]; omega
theorem bs_add_rng {s i : Int} {n : Nat} (hs : 0 ≤ s ∧ s < 2 ^ n) (hi : 0 ≤ i ∧ i < n) : 0 ≤ bs_add s i ∧ bs_add s i < 2 ^ n := by
  unfold bs_add
  have h1 : s.toNat < 2 ^ n := by
    have : ((s.toNat : Nat) : Int) < ((2 ^ n : Nat) : Int) := by rw [Int.toNat_of_nonneg hs.1]; simpa using hs.2
    omega
  have h2 : 2 ^ i.toNat < 2 ^ n := Nat.pow_lt_pow_right (by omega) (by omega)
  have h3 := Nat.or_lt_two_pow h1 h2
  refine ⟨by omega, ?_⟩
  have : ((s.toNat ||| 2 ^ i.toNat : Nat) : Int) < ((2 ^ n : Nat) : Int) := by omega
  simpa using this
theorem bs_zero (k : Int) : bs 0 k = false := by simp [bs]
theorem bs_ext {s t : Int} {n : Nat} (hs : 0 ≤ s ∧ s < 2 ^ n) (ht : 0 ≤ t ∧ t < 2 ^ n) (h : ∀ k : Int, 0 ≤ k → k < n → bs s k = bs t k) : s = t := by
  have hs1 : s.toNat < 2 ^ n := by
    have : ((s.toNat : Nat) : Int) < ((2 ^ n : Nat) : Int) := by rw [Int.toNat_of_nonneg hs.1]; simpa using hs.2
    omega
  have ht1 : t.toNat < 2 ^ n := by
    have : ((t.toNat : Nat) : Int) < ((2 ^ n : Nat) : Int) := by rw [Int.toNat_of_nonneg ht.1]; simpa using ht.2
    omega
  have : s.toNat = t.toNat := by
    apply Nat.eq_of_testBit_eq
    intro i
    by_cases hi : i < n
    · have := h (i : Int) (by omega) (by omega)
      simpa [bs] using this
    · rw [Nat.testBit_lt_two_pow (Nat.lt_of_lt_of_le hs1 (Nat.pow_le_pow_right (by omega) (by omega))), Nat.testBit_lt_two_pow (Nat.lt_of_lt_of_le ht1 (Nat.pow_le_pow_right (by omega) (by omega)))]
  omega
