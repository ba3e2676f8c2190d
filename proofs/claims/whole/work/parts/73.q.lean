/-! a client as a row of 38 numbers (time, hits, misses, waited, listened, cache, counts from 6, last from 22) -/
def ql (pol : Int) (pop dk fr g : Int → Int) (x y : Int) : Bool := if pol = 2 then (if pop x * fr (dk y) - pop y * fr (dk x) = 0 then decide (x < y) else decide (pop x * fr (dk y) - pop y * fr (dk x) < 0)) else if pol = 1 ∧ g (6 + x) ≠ g (6 + y) then decide (g (6 + x) < g (6 + y)) else decide (g (22 + x) < g (22 + y))
/-- the least of a set, from the first on -/
def qm (lt : Int → Int → Bool) (s : Int) : Nat → Int → Int → Int
  | 0, _, b => b
  | n + 1, i, b => qm lt s n (i + 1) (if bs s i = true ∧ (b = -1 ∨ lt i b = true) then i else b)
/-- the least of a set, from one of it on -/
def qw (lt : Int → Int → Bool) (s : Int) : Nat → Int → Int → Int
  | 0, _, b => b
  | n + 1, i, b => qw lt s n (i + 1) (if bs s i = true ∧ lt i b = true then i else b)
/-- a strict order on a set -/
def QO (lt : Int → Int → Bool) (s ni : Int) : Prop := (∀ x, lt x x = false) ∧ (∀ x y, 0 ≤ x → x < ni → 0 ≤ y → y < ni → bs s x = true → bs s y = true → x ≠ y → lt x y = true ∨ lt y x = true) ∧ ∀ x y z, 0 ≤ x → x < ni → 0 ≤ y → y < ni → 0 ≤ z → z < ni → bs s x = true → bs s y = true → bs s z = true → lt x y = true → lt y z = true → lt x z = true
/-- b is the least of those below i -/
def QB (lt : Int → Int → Bool) (s ni i b : Int) : Prop := (0 ≤ b ∧ b < ni ∧ bs s b = true) ∧ ∀ y, 0 ≤ y → y < i → bs s y = true → y ≠ b → lt b y = true
theorem QB.one {lt : Int → Int → Bool} {s ni b c : Int} (ho : QO lt s ni) (h1 : QB lt s ni ni b) (h2 : QB lt s ni ni c) : b = c := by
  apply Decidable.byContradiction
  intro h
  have e1 := h1.2 c h2.1.1 h2.1.2.1 h2.1.2.2 (fun e => h e.symm)
  have e2 := h2.2 b h1.1.1 h1.1.2.1 h1.1.2.2 h
  have e3 := ho.2.2 b c b h1.1.1 h1.1.2.1 h2.1.1 h2.1.2.1 h1.1.1 h1.1.2.1 h1.1.2.2 h2.1.2.2 h1.1.2.2 e1 e2
  rw [ho.1 b] at e3
  exact absurd e3 (by decide)
theorem QB.st {lt : Int → Int → Bool} {s ni i b : Int} (ho : QO lt s ni) (hi : 0 ≤ i ∧ i < ni) (h : QB lt s ni i b) : QB lt s ni (i + 1) (if bs s i = true ∧ lt i b = true then i else b) := by
  split
  · rename_i hc
    refine ⟨⟨hi.1, hi.2, hc.1⟩, fun y a b9 c d => ?_⟩
    by_cases hyb : y = b
    · subst hyb; exact hc.2
    · have := h.2 y a (by omega) c hyb
      exact ho.2.2 i b y hi.1 hi.2 h.1.1 h.1.2.1 a (by omega) hc.1 h.1.2.2 c hc.2 this
  · rename_i hc
    refine ⟨h.1, fun y a b9 c d => ?_⟩
    by_cases hyi : y = i
    · subst hyi
      rcases ho.2.1 b y h.1.1 h.1.2.1 a hi.2 h.1.2.2 c (fun e => d e.symm) with e | e
      · exact e
      · exact absurd ⟨c, e⟩ hc
    · exact h.2 y a (by omega) c d
theorem qw_s {lt : Int → Int → Bool} {s ni : Int} (ho : QO lt s ni) : ∀ (n : Nat) (i b : Int), 0 ≤ i → i + n = ni → QB lt s ni i b → QB lt s ni ni (qw lt s n i b)
  | 0, i, b, _, h2, h => by simp only [qw]; have e : i = ni := by omega
                            subst e; exact h
  | n + 1, i, b, h1, h2, h => by
    simp only [qw]
    exact qw_s ho n (i + 1) _ (by omega) (by omega) (h.st ho ⟨h1, by omega⟩)
theorem qm_s {lt : Int → Int → Bool} {s ni : Int} (ho : QO lt s ni) : ∀ (n : Nat) (i b : Int), 0 ≤ i → i + n = ni → QB lt s ni i b → qm lt s n i b = qw lt s n i b
  | 0, i, b, _, h2, h => rfl
  | n + 1, i, b, h1, h2, h => by
    simp only [qm, qw]
    have e : (if bs s i = true ∧ (b = -1 ∨ lt i b = true) then i else b) = (if bs s i = true ∧ lt i b = true then i else b) := by
      have hb := h.1.1
      by_cases c : bs s i = true ∧ lt i b = true
      · rw [if_pos c, if_pos ⟨c.1, Or.inr c.2⟩]
      · rw [if_neg c, if_neg (fun q => q.2.elim (fun z => by omega) (fun z => c ⟨q.1, z⟩))]
    rw [e]
    exact qm_s ho n (i + 1) _ (by omega) (by omega) (h.st ho ⟨h1, by omega⟩)
theorem qm_none {lt : Int → Int → Bool} {s ni : Int} (ho : QO lt s ni) : ∀ (n : Nat) (i : Int), 0 ≤ i → i + n = ni → (∀ y, 0 ≤ y → y < i → bs s y = false) → (∃ y, i ≤ y ∧ y < ni ∧ bs s y = true) → QB lt s ni ni (qm lt s n i (-1))
  | 0, i, _, h2, _, h => by obtain ⟨y, a, b, _⟩ := h; omega
  | n + 1, i, h1, h2, h3, h4 => by
    simp only [qm]
    by_cases hi : bs s i = true
    · rw [if_pos ⟨hi, Or.inl trivial⟩]
      have hq : QB lt s ni (i + 1) i := ⟨⟨h1, by omega, hi⟩, fun y a b c d => by
        have := h3 y a (by omega)
        rw [this] at c
        exact absurd c (by decide)⟩
      rw [qm_s ho n (i + 1) i (by omega) (by omega) hq]
      exact qw_s ho n (i + 1) i (by omega) (by omega) hq
    · rw [if_neg (fun q => hi q.1)]
      refine qm_none ho n (i + 1) (by omega) (by omega) (fun y a b => ?_) ?_
      · by_cases e : y = i
        · subst e; cases hz : bs s y
          · rfl
          · exact absurd hz hi
        · exact h3 y a (by omega)
      · obtain ⟨y, a, b, c⟩ := h4
        refine ⟨y, ?_, b, c⟩
        have : y ≠ i := fun e => by subst e; exact hi c
        omega
/-- both scans take the same -/
theorem qm_qw {lt : Int → Int → Bool} {s ni r : Int} (ho : QO lt s ni) (hn : 0 ≤ ni) (hr : 0 ≤ r ∧ r < ni ∧ bs s r = true) : qm lt s ni.toNat 0 (-1) = qw lt s ni.toNat 0 r :=
  QB.one ho (qm_none ho ni.toNat 0 (by omega) (by omega) (fun y a b => by omega) ⟨r, hr.1, hr.2.1, hr.2.2⟩) (qw_s ho ni.toNat 0 r (by omega) (by omega) ⟨hr, fun y a b => by omega⟩)
theorem qw_c {lt lt' : Int → Int → Bool} {s ni : Int} (e : ∀ x y, 0 ≤ x → x < ni → 0 ≤ y → y < ni → lt x y = lt' x y) : ∀ (n : Nat) (i b : Int), 0 ≤ i → i + n = ni → (0 ≤ b ∧ b < ni) → qw lt s n i b = qw lt' s n i b
  | 0, _, _, _, _, _ => rfl
  | n + 1, i, b, h1, h2, h3 => by
    simp only [qw]
    rw [e i b h1 (by omega) h3.1 h3.2]
    exact qw_c e n (i + 1) _ (by omega) (by omega) (by split <;> omega)
/-- the order of worth is a strict one -/
theorem fx_tr {a b c x y z : Int} (hx : 0 < x) (hy : 0 < y) (hz : 0 < z) (h1 : a * y ≤ b * x) (h2 : b * z ≤ c * y) : a * z ≤ c * x := by
  have e1 : a * y * z ≤ b * x * z := Int.mul_le_mul_of_nonneg_right h1 (by omega)
  have e2 : b * z * x ≤ c * y * x := Int.mul_le_mul_of_nonneg_right h2 (by omega)
  have e3 : (a * z) * y ≤ (c * x) * y := by
    rw [show a * z * y = a * y * z by rw [Int.mul_assoc, Int.mul_comm z y, ← Int.mul_assoc], show c * x * y = c * y * x by rw [Int.mul_assoc, Int.mul_comm x y, ← Int.mul_assoc]]
    rw [show b * z * x = b * x * z by rw [Int.mul_assoc, Int.mul_comm z x, ← Int.mul_assoc]] at e2
    omega
  exact Int.le_of_mul_le_mul_right e3 hy
theorem fx_tl {a b c x y z : Int} (hx : 0 < x) (hy : 0 < y) (hz : 0 < z) (h1 : a * y < b * x) (h2 : b * z ≤ c * y) : a * z < c * x := by
  have e1 : a * y * z < b * x * z := Int.mul_lt_mul_of_pos_right h1 hz
  have e2 : b * z * x ≤ c * y * x := Int.mul_le_mul_of_nonneg_right h2 (by omega)
  have e3 : (a * z) * y < (c * x) * y := by
    rw [show a * z * y = a * y * z by rw [Int.mul_assoc, Int.mul_comm z y, ← Int.mul_assoc], show c * x * y = c * y * x by rw [Int.mul_assoc, Int.mul_comm x y, ← Int.mul_assoc]]
    rw [show b * z * x = b * x * z by rw [Int.mul_assoc, Int.mul_comm z x, ← Int.mul_assoc]] at e2
    omega
  exact Int.lt_of_mul_lt_mul_right e3 (by omega)
theorem fx_tg {a b c x y z : Int} (hx : 0 < x) (hy : 0 < y) (hz : 0 < z) (h1 : a * y ≤ b * x) (h2 : b * z < c * y) : a * z < c * x := by
  have e1 : a * y * z ≤ b * x * z := Int.mul_le_mul_of_nonneg_right h1 (by omega)
  have e2 : b * z * x < c * y * x := Int.mul_lt_mul_of_pos_right h2 hx
  have e3 : (a * z) * y < (c * x) * y := by
    rw [show a * z * y = a * y * z by rw [Int.mul_assoc, Int.mul_comm z y, ← Int.mul_assoc], show c * x * y = c * y * x by rw [Int.mul_assoc, Int.mul_comm x y, ← Int.mul_assoc]]
    rw [show b * z * x = b * x * z by rw [Int.mul_assoc, Int.mul_comm z x, ← Int.mul_assoc]] at e2
    omega
  exact Int.lt_of_mul_lt_mul_right e3 (by omega)
theorem ql_ord {pol s ni : Int} {pop dk fr g : Int → Int} (hf : ∀ x, 0 ≤ x → x < ni → 0 < fr (dk x)) (hd : ∀ x y, 0 ≤ x → x < ni → 0 ≤ y → y < ni → bs s x = true → bs s y = true → x ≠ y → g (22 + x) ≠ g (22 + y)) : QO (ql pol pop dk fr g) s ni := by
  refine ⟨fun x => ?_, fun x y a b c d e f hxy => ?_, fun x y z a b c d e f hx hy hz h1 h2 => ?_⟩
  · unfold ql
    split
    · rw [if_pos (by omega)]; exact decide_eq_false (by omega)
    · rw [if_neg (fun q => q.2 rfl)]; exact decide_eq_false (by omega)
  · unfold ql
    split
    · by_cases h0 : pop x * fr (dk y) - pop y * fr (dk x) = 0
      · rw [if_pos h0, if_pos (by omega), decide_eq_true_iff, decide_eq_true_iff]; omega
      · rw [if_neg h0, if_neg (by omega), decide_eq_true_iff, decide_eq_true_iff]; omega
    · by_cases h1 : pol = 1 ∧ g (6 + x) ≠ g (6 + y)
      · rw [if_pos h1, if_pos ⟨h1.1, fun q => h1.2 q.symm⟩, decide_eq_true_iff, decide_eq_true_iff]; omega
      · rw [if_neg h1, if_neg (fun q => h1 ⟨q.1, fun w => q.2 w.symm⟩), decide_eq_true_iff, decide_eq_true_iff]
        have := hd x y a b c d e f hxy
        omega
  · unfold ql at h1 h2 ⊢
    by_cases hp : pol = 2
    · rw [if_pos hp] at h1 h2 ⊢
      have px := hf x a b
      have py := hf y c d
      have pz := hf z e f
      by_cases h3 : pop x * fr (dk y) - pop y * fr (dk x) = 0
      · rw [if_pos h3, decide_eq_true_iff] at h1
        by_cases h4 : pop y * fr (dk z) - pop z * fr (dk y) = 0
        · rw [if_pos h4, decide_eq_true_iff] at h2
          have e1 := fx_tr (a := pop x) (b := pop y) (c := pop z) px py pz (by omega) (by omega)
          have e2 := fx_tr (a := pop z) (b := pop y) (c := pop x) pz py px (by omega) (by omega)
          rw [if_pos (by omega), decide_eq_true_iff]
          omega
        · rw [if_neg h4, decide_eq_true_iff] at h2
          have e1 := fx_tg (a := pop x) (b := pop y) (c := pop z) px py pz (by omega) (by omega)
          rw [if_neg (by omega), decide_eq_true_iff]
          omega
      · rw [if_neg h3, decide_eq_true_iff] at h1
        have h5 : pop y * fr (dk z) ≤ pop z * fr (dk y) := by
          by_cases h4 : pop y * fr (dk z) - pop z * fr (dk y) = 0
          · omega
          · rw [if_neg h4, decide_eq_true_iff] at h2; omega
        have e1 := fx_tl (a := pop x) (b := pop y) (c := pop z) px py pz (by omega) h5
        rw [if_neg (by omega), decide_eq_true_iff]
        omega
    · rw [if_neg hp] at h1 h2 ⊢
      by_cases h3 : pol = 1 ∧ g (6 + x) ≠ g (6 + y)
      · rw [if_pos h3, decide_eq_true_iff] at h1
        by_cases h4 : pol = 1 ∧ g (6 + y) ≠ g (6 + z)
        · rw [if_pos h4, decide_eq_true_iff] at h2
          rw [if_pos ⟨h3.1, by omega⟩, decide_eq_true_iff]; omega
        · have h5 : g (6 + y) = g (6 + z) := Decidable.byContradiction (fun q => h4 ⟨h3.1, q⟩)
          rw [← h5, if_pos h3, decide_eq_true_iff]; exact h1
      · rw [if_neg h3, decide_eq_true_iff] at h1
        by_cases h6 : pol = 1
        · have h5 : g (6 + x) = g (6 + y) := Decidable.byContradiction (fun q => h3 ⟨h6, q⟩)
          rw [h5]
          by_cases h4 : pol = 1 ∧ g (6 + y) ≠ g (6 + z)
          · rw [if_pos h4] at h2 ⊢; exact h2
          · rw [if_neg h4, decide_eq_true_iff] at h2
            rw [if_neg h4, decide_eq_true_iff]; omega
        · rw [if_neg (fun q => h6 q.1), decide_eq_true_iff] at h2
          rw [if_neg (fun q => h6 q.1), decide_eq_true_iff]; omega
/-- a client notes an item -/
def q1 (g : Int → Int) (i : Int) : Int → Int := bc_u (bc_u g (6 + i) (g (6 + i) + 1)) (22 + i) (g 1 + g 2 + 1)
/-- whom it removes -/
def qv (cap pol ni : Int) (pop dk fr g : Int → Int) (i : Int) : Int := if bs_cnt (bs_add (g 5) i) 16 ≤ cap then -2 else qm (ql pol pop dk fr (q1 g i)) (bs_add (g 5) i) ni.toNat 0 (-1)
def qr (cap pol ni : Int) (pop dk fr g : Int → Int) (i : Int) : Int := if bs (g 5) i = true then -2 else qv cap pol ni pop dk fr g i
def qc (cap pol ni : Int) (pop dk fr g : Int → Int) (i : Int) : Int := if bs_cnt (bs_add (g 5) i) 16 ≤ cap then bs_add (g 5) i else bs_add (g 5) i - ((2 ^ (qv cap pol ni pop dk fr g i).toNat : Nat) : Int)
/-- how long a request takes -/
def qR (W : Int → Int → Int) (g : Int → Int) (i : Int) : Int := if bs (g 5) i = true then 0 else W i (g 0)
/-- the client behind it -/
def qG (cap pol ni : Int) (pop dk fr : Int → Int) (W L : Int → Int → Int) (g : Int → Int) (i : Int) : Int → Int := if bs (g 5) i = true then bc_u (q1 g i) 1 (g 1 + 1) else bc_u (bc_u (bc_u (bc_u (bc_u (q1 g i) 2 (g 2 + 1)) 3 (g 3 + W i (g 0))) 4 (g 4 + L i (g 0))) 0 (g 0 + W i (g 0))) 5 (qc cap pol ni pop dk fr g i)
/-- a client in order after at most n requests and thoughts -/
def QI (g : Int → Int) (ni n : Int) : Prop := (0 ≤ g 0 ∧ g 0 ≤ 10000 * n) ∧ (0 ≤ g 1 ∧ 0 ≤ g 2 ∧ g 1 + g 2 ≤ n) ∧ (0 ≤ g 3 ∧ g 3 ≤ 10000 * n) ∧ (0 ≤ g 4 ∧ g 4 ≤ 10000 * n) ∧ (0 ≤ g 5 ∧ g 5 < 65536) ∧ (∀ i, 0 ≤ i → i < 16 → (0 ≤ g (6 + i) ∧ g (6 + i) ≤ n) ∧ (0 ≤ g (22 + i) ∧ g (22 + i) ≤ g 1 + g 2)) ∧ (∀ i, ni ≤ i → i < 16 → bs (g 5) i = false) ∧ ∀ x y, 0 ≤ x → x < 16 → 0 ≤ y → y < 16 → bs (g 5) x = true → bs (g 5) y = true → x ≠ y → g (22 + x) ≠ g (22 + y)
theorem q1_v {g : Int → Int} {i f : Int} (h1 : f ≠ 6 + i) (h2 : f ≠ 22 + i) : q1 g i f = g f := by unfold q1; rw [u_ne h2, u_ne h1]
theorem q1_o {g : Int → Int} {i : Int} (hi : 0 ≤ i ∧ i < 16) : q1 g i (6 + i) = g (6 + i) + 1 := by unfold q1; rw [u_ne (by omega), u_at]
theorem q1_l {g : Int → Int} {i : Int} : q1 g i (22 + i) = g 1 + g 2 + 1 := by unfold q1; rw [u_at]
theorem q1_d {g : Int → Int} {ni n i x y : Int} (h : QI g ni n) (hi : 0 ≤ i ∧ i < 16) (hx : 0 ≤ x ∧ x < 16) (hy : 0 ≤ y ∧ y < 16) (hbx : bs (bs_add (g 5) i) x = true) (hby : bs (bs_add (g 5) i) y = true) (hn : x ≠ y) : q1 g i (22 + x) ≠ q1 g i (22 + y) := by
  obtain ⟨_, _, _, _, _, h6, _, h8⟩ := h
  rw [bs_add_in hi.1 hx.1] at hbx
  rw [bs_add_in hi.1 hy.1] at hby
  have e1 := (h6 x hx.1 hx.2).2
  have e2 := (h6 y hy.1 hy.2).2
  by_cases a : x = i
  · subst a
    rw [q1_l, q1_v (f := 22 + y) (by omega) (by omega)]
    omega
  · by_cases b : y = i
    · subst b
      rw [q1_l, q1_v (f := 22 + x) (by omega) (by omega)]
      omega
    · rw [q1_v (f := 22 + y) (by omega) (by omega), q1_v (f := 22 + x) (by omega) (by omega)]
      have a' : decide (x = i) = false := decide_eq_false a
      have b' : decide (y = i) = false := decide_eq_false b
      rw [a', Bool.or_false] at hbx
      rw [b', Bool.or_false] at hby
      exact h8 x y hx.1 hx.2 hy.1 hy.2 hbx hby hn
theorem q_ord {pol ni n i nd sg ln : Int} {pop dk fr g : Int → Int} (hv : SV dk fr nd ni sg ln) (h : QI g ni n) (hi : 0 ≤ i ∧ i < ni) : QO (ql pol pop dk fr (q1 g i)) (bs_add (g 5) i) ni := by
  have h1 := hv.2.1
  refine ql_ord (fun x a b => ?_) (fun x y a b c d e f hn => q1_d h (by omega) (by omega) (by omega) e f hn)
  have h3 := hv.2.2.2.2.2 x a b
  have h4 := hv.2.2.2.2.1 (dk x) h3.1 h3.2
  omega
/-- the one removed is of the set -/
theorem qv_in {cap pol ni n i nd sg ln : Int} {pop dk fr g : Int → Int} (hv : SV dk fr nd ni sg ln) (h : QI g ni n) (hi : 0 ≤ i ∧ i < ni) (hc : ¬ bs_cnt (bs_add (g 5) i) 16 ≤ cap) : (0 ≤ qv cap pol ni pop dk fr g i ∧ qv cap pol ni pop dk fr g i < ni) ∧ bs (bs_add (g 5) i) (qv cap pol ni pop dk fr g i) = true := by
  have h1 := hv.2.1
  unfold qv
  rw [if_neg hc]
  have hb : bs (bs_add (g 5) i) i = true := by rw [bs_add_in hi.1 hi.1, decide_eq_true (rfl : i = i), Bool.or_true]
  have := (qm_none (q_ord (pol := pol) (pop := pop) hv h hi) ni.toNat 0 (by omega) (by omega) (fun y a b => by omega) ⟨i, hi.1, hi.2, hb⟩).1
  exact ⟨⟨this.1, this.2.1⟩, this.2.2⟩
