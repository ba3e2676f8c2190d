/-! the lexer: a token is (start, end, kind, value); kinds: 0 end, 1 word, 2 number, 3 semicolon, 4 other -/
abbrev bl_t := Int × Int × Int × Int
/-- the parser's state: (error, token) -/
abbrev bl_s := Int × bl_t
def lx_bl (c : Int) : Bool := decide (c = 32 ∨ c = 10)
def lx_le (c : Int) : Bool := decide (97 ≤ c ∧ c ≤ 122)
def lx_di (c : Int) : Bool := decide (48 ≤ c ∧ c ≤ 57)
def lx_run (P : Int → Bool) (b : Int → Int) (len : Int) : Nat → Int → Int
  | 0, q => q
  | n + 1, q => if q < len ∧ P (b q) = true then lx_run P b len n (q + 1) else q
def lx_num (b : Int → Int) (len s : Int) : Nat → Int → Int → Int
  | 0, _, v => v
  | n + 1, q, v => if q < len ∧ lx_di (b q) = true then lx_num b len s n (q + 1) (if q - s < 4 then 10 * v + b q - 48 else v) else v
def lxS (b : Int → Int) (len p : Int) : Int := lx_run lx_bl b len (len - p).toNat p
def lxR (P : Int → Bool) (b : Int → Int) (len s : Int) : Int := lx_run P b len (len - s).toNat s
def lx_at (b : Int → Int) (len s : Int) : bl_t :=
  if len ≤ s then (s, s, 0, 0) else if lx_le (b s) = true then (s, lxR lx_le b len s, 1, 0) else if lx_di (b s) = true then (s, lxR lx_di b len s, (if lxR lx_di b len s - s ≤ 4 then 2 else 4), lx_num b len s (len - s).toNat s 0) else (s, s + 1, (if b s = 59 then 3 else 4), 0)
def lx (b : Int → Int) (len p : Int) : bl_t := lx_at b len (lxS b len p)
theorem lx_run_r {P : Int → Bool} {b : Int → Int} {len : Int} : ∀ (n : Nat) (q : Int), q + n ≤ len → q ≤ lx_run P b len n q ∧ lx_run P b len n q ≤ len
  | 0, q, h => by simp only [lx_run]; omega
  | n + 1, q, h => by
    simp only [lx_run]
    split
    · have := lx_run_r (P := P) (b := b) (len := len) n (q + 1) (by omega)
      omega
    · omega
/-- the number stays as it is behind the fourth digit: it is below 10000 -/
theorem lx_num_4 {b : Int → Int} {len s : Int} : ∀ (n : Nat) (q v B : Int), s ≤ q → (0 ≤ v ∧ (q - s = 0 ∧ v < 1 ∨ q - s = 1 ∧ v < 10 ∨ q - s = 2 ∧ v < 100 ∨ q - s = 3 ∧ v < 1000 ∨ 4 ≤ q - s ∧ v < 10000)) → 0 ≤ lx_num b len s n q v ∧ lx_num b len s n q v < 10000
  | 0, q, v, _, h1, h2 => by simp only [lx_num]; omega
  | n + 1, q, v, B, h1, h2 => by
    simp only [lx_num]
    by_cases c : q < len ∧ lx_di (b q) = true
    · rw [if_pos c]
      have hd : 48 ≤ b q ∧ b q ≤ 57 := decide_eq_true_iff.mp c.2
      refine lx_num_4 n (q + 1) _ B (by omega) ?_
      by_cases e : q - s < 4
      · rw [if_pos e]; omega
      · rw [if_neg e]; omega
    · rw [if_neg c]; omega
/-- a state in order -/
def SG (len : Int) (σ : bl_s) : Prop := (0 ≤ σ.1 ∧ σ.1 ≤ 3) ∧ (0 ≤ σ.2.1 ∧ σ.2.1 ≤ σ.2.2.1 ∧ σ.2.2.1 ≤ len) ∧ (0 ≤ σ.2.2.2.1 ∧ σ.2.2.2.1 ≤ 4) ∧ 0 ≤ σ.2.2.2.2 ∧ σ.2.2.2.2 < 10000
theorem lxS_r {b : Int → Int} {len p : Int} (h : p ≤ len) : p ≤ lxS b len p ∧ lxS b len p ≤ len := lx_run_r _ _ (by omega)
theorem lxR_r {P : Int → Bool} {b : Int → Int} {len p : Int} (h : p ≤ len) : p ≤ lxR P b len p ∧ lxR P b len p ≤ len := lx_run_r _ _ (by omega)
theorem lx_at_r {b : Int → Int} {len s : Int} (h : 0 ≤ s ∧ s ≤ len) : SG len (0, lx_at b len s) := by
  unfold lx_at
  by_cases h1 : len ≤ s
  · rw [if_pos h1]; exact ⟨(show (0 : Int) ≤ 0 ∧ (0 : Int) ≤ 3 by decide), ⟨h.1, Int.le_refl _, h.2⟩, (show (0 : Int) ≤ 0 ∧ (0 : Int) ≤ 4 by decide), (show (0 : Int) ≤ 0 ∧ (0 : Int) < 10000 by decide)⟩
  · rw [if_neg h1]
    by_cases h2 : lx_le (b s) = true
    · rw [if_pos h2]
      have := lxR_r (P := lx_le) (b := b) h.2
      exact ⟨(show (0 : Int) ≤ 0 ∧ (0 : Int) ≤ 3 by decide), ⟨h.1, this.1, this.2⟩, (show (0 : Int) ≤ 1 ∧ (1 : Int) ≤ 4 by decide), (show (0 : Int) ≤ 0 ∧ (0 : Int) < 10000 by decide)⟩
    · rw [if_neg h2]
      by_cases h3 : lx_di (b s) = true
      · rw [if_pos h3]
        have h4 := lxR_r (P := lx_di) (b := b) h.2
        have h5 := lx_num_4 (b := b) (len := len) (s := s) (len - s).toNat s 0 0 (by omega) (by omega)
        refine ⟨(show (0 : Int) ≤ 0 ∧ (0 : Int) ≤ 3 by decide), ⟨h.1, h4.1, h4.2⟩, ?_, h5⟩
        show 0 ≤ (if lxR lx_di b len s - s ≤ 4 then (2 : Int) else 4) ∧ (if lxR lx_di b len s - s ≤ 4 then (2 : Int) else 4) ≤ 4
        split <;> omega
      · rw [if_neg h3]
        refine ⟨(show (0 : Int) ≤ 0 ∧ (0 : Int) ≤ 3 by decide), ⟨h.1, (show s ≤ s + 1 by omega), (show s + 1 ≤ len by omega)⟩, ?_, (show (0 : Int) ≤ 0 ∧ (0 : Int) < 10000 by decide)⟩
        show 0 ≤ (if b s = 59 then (3 : Int) else 4) ∧ (if b s = 59 then (3 : Int) else 4) ≤ 4
        split <;> omega
/-- a failure; an advance -/
def p_f (c : Int) (σ : bl_s) : bl_s := if σ.1 = 0 then (c, σ.2) else σ
def p_a (b : Int → Int) (len : Int) (σ : bl_s) : bl_s := if σ.1 = 0 then (0, lx b len σ.2.2.1) else σ
theorem SG.f {len c : Int} {σ : bl_s} (h : SG len σ) (hc : 1 ≤ c ∧ c ≤ 3) : SG len (p_f c σ) := by
  unfold p_f
  split
  · exact ⟨⟨(show 0 ≤ c by omega), hc.2⟩, h.2⟩
  · exact h
theorem SG.a {b : Int → Int} {len : Int} {σ : bl_s} (h : SG len σ) : SG len (p_a b len σ) := by
  unfold p_a
  split
  · have h1 := h.2.1
    have := lxS_r (b := b) h1.2.2
    exact lx_at_r (by omega)
  · exact h
/-- is the token this word -/
def p_eq (b : Int → Int) (s : Int) (ti : Nat) : Nat → Int → Bool
  | 0, _ => true
  | n + 1, j => if b (s + j) = st_ch ti j then p_eq b s ti n (j + 1) else false
def p_w (b : Int → Int) (ti : Nat) (σ : bl_s) : Bool := decide (σ.1 = 0 ∧ σ.2.2.2.1 = 1 ∧ σ.2.2.1 - σ.2.1 = st_len ti) && p_eq b σ.2.1 ti (st_len ti).toNat 0
/-- a number in its range -/
def p_n (b : Int → Int) (len lo hi : Int) (σ : bl_s) : bl_s := if σ.2.2.2.1 = 2 then (if lo ≤ σ.2.2.2.2 ∧ σ.2.2.2.2 ≤ hi then p_a b len σ else p_f 2 σ) else p_f 1 σ
def p_s (b : Int → Int) (len : Int) (σ : bl_s) : bl_s := if σ.2.2.2.1 = 3 then p_a b len σ else p_f 1 σ
theorem SG.n {b : Int → Int} {len lo hi : Int} {σ : bl_s} (h : SG len σ) : SG len (p_n b len lo hi σ) := by
  unfold p_n
  split
  · split
    · exact h.a
    · exact h.f (by decide)
  · exact h.f (by decide)
theorem SG.s {b : Int → Int} {len : Int} {σ : bl_s} (h : SG len σ) : SG len (p_s b len σ) := by
  unfold p_s
  split
  · exact h.a
  · exact h.f (by decide)
theorem p_f_e {c : Int} {σ : bl_s} (h : σ.1 ≠ 0) : p_f c σ = σ := if_neg h
theorem p_a_e {b : Int → Int} {len : Int} {σ : bl_s} (h : σ.1 ≠ 0) : p_a b len σ = σ := if_neg h
theorem p_n_e {b : Int → Int} {len lo hi : Int} {σ : bl_s} (h : σ.1 ≠ 0) : p_n b len lo hi σ = σ := by
  unfold p_n
  rw [p_a_e h, p_f_e h, p_f_e h]
  split
  · split <;> rfl
  · rfl
theorem p_s_e {b : Int → Int} {len : Int} {σ : bl_s} (h : σ.1 ≠ 0) : p_s b len σ = σ := by
  unfold p_s
  rw [p_a_e h, p_f_e h]
  split <;> rfl
theorem p_w_e {b : Int → Int} {ti : Nat} {σ : bl_s} (h : σ.1 ≠ 0) : p_w b ti σ = false := by
  unfold p_w
  rw [decide_eq_false (fun q => h q.1), Bool.false_and]
