/-! Integer.bitCount of sixteen bits -/
def bk_f (n : Nat) : Nat :=
  let a := n - (n / 2 &&& 1431655765)
  let b := (a &&& 858993459) + (a / 4 &&& 858993459)
  let c := (b + b / 16) &&& 252645135
  let d := c + c / 256
  let e := d + d / 65536
  e &&& 63
def bk_pop (n : Nat) : Nat := n % 2 + n / 2 % 2 + n / 4 % 2 + n / 8 % 2 + n / 16 % 2 + n / 32 % 2 + n / 64 % 2 + n / 128 % 2 + n / 256 % 2 + n / 512 % 2 + n / 1024 % 2 + n / 2048 % 2 + n / 4096 % 2 + n / 8192 % 2 + n / 16384 % 2 + n / 32768 % 2
def bk_chk : Nat → Nat → Bool
  | 0, n => Nat.beq (bk_f n) (bk_pop n)
  | d + 1, n => bk_chk d (2 * n) && bk_chk d (2 * n + 1)
theorem bk_spec : ∀ (d n : Nat), bk_chk d n = true → ∀ m, m < 2 ^ d → bk_f (n * 2 ^ d + m) = bk_pop (n * 2 ^ d + m)
  | 0, n, h, m, hm => by
    have : m = 0 := by simpa using hm
    subst this
    simp only [bk_chk] at h
    simpa using Nat.eq_of_beq_eq_true h
  | d + 1, n, h, m, hm => by
    simp only [bk_chk, Bool.and_eq_true] at h
    have hp : 2 ^ (d + 1) = 2 * 2 ^ d := by rw [Nat.pow_succ]; omega
    by_cases hlt : m < 2 ^ d
    · have := bk_spec d (2 * n) h.1 m hlt
      rw [show n * 2 ^ (d + 1) + m = 2 * n * 2 ^ d + m by rw [hp]; rw [Nat.mul_left_comm, Nat.mul_assoc]]
      exact this
    · have := bk_spec d (2 * n + 1) h.2 (m - 2 ^ d) (by omega)
      have e : n * 2 ^ (d + 1) + m = (2 * n + 1) * 2 ^ d + (m - 2 ^ d) := by
        rw [hp, Nat.add_mul, Nat.one_mul, Nat.mul_left_comm, Nat.mul_assoc]
        omega
      rw [e]
      exact this
theorem bk_16 : bk_chk 16 0 = true := by decide +kernel
theorem bk_eq {n : Nat} (h : n < 65536) : bk_f n = bk_pop n := by
  have := bk_spec 16 0 bk_16 n h
  simpa using this
