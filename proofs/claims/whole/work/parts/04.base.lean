/-! THE BASE: memory as numbers by kind, object and place; a judgement bc_W over it, a row an instruction -/
abbrev bc_M : Type := Nat → Int → Int → Int
abbrev bc_R : Type := String ⊕ Option Value
/-- launch; class numbers and slots; array kinds; addresses by kind and number; the heap at the law's entry -/
abbrev bc_G : Type := Launch × va_G × List (ClassId × FieldType) × (Nat → Int → Nat) × Heap
def vI (x : Int) : Value := .int (Int32.ofInt x)
def vJ (x : Int) : Value := .long (Int64.ofInt x)
def vR (G : bc_G) (k : Nat) (j : Int) : Value := .ref (G.2.2.2.1 k j)
def bc_ty (G : bc_G) (t : Nat) : ClassId := (G.2.2.1.getD t (0, .int)).1
def bc_u (g : Int → Int) (f v : Int) : Int → Int := fun q => if q = f then v else g q
def bc_up (M : bc_M) (k : Nat) (j f v : Int) : bc_M := fun k' j' => if k' = k ∧ j' = j then bc_u (M k j) f v else M k' j'
def bc_wd : List Cond := lw_tbl.filter goodWord
theorem bc_mem {w : Cond} (i : Nat) (h : lw_tbl[i]? = some w) (g : goodWord w = true) : w ∈ bc_wd := List.mem_filter.mpr ⟨List.mem_of_getElem? h, g⟩
theorem bc_isgood {w : Cond} (h : w ∈ bc_wd) : (w.onTables && w.keeps) = true ∨ ∃ ty, w = .arrayClass ty := good_of_word (List.mem_filter.mp h).2
theorem bc_goodIn {w0 : Cond} (h : w0 ∈ bc_wd) : GoodIn bc_wd (w0 :: bc_wd) := fun w hw => by
  rcases List.mem_cons.mp hw with e | e
  · rw [e]; exact ⟨h, bc_isgood h⟩
  · exact ⟨e, bc_isgood e⟩
theorem bc_goodSelf : GoodIn bc_wd bc_wd := fun w hw => ⟨hw, bc_isgood hw⟩
def bc_rm (d n : Nat) : Room := { frames := d, cells := n, slots := 8 * n, locals := 64 * d }
def bc_A (G : bc_G) : Nat → Prop := fun q => G.2.2.2.2.size ≤ q
/-- the old cells are as they were at the law's entry -/
def bc_O (G : bc_G) (H : Heap) : Prop := G.2.2.2.2.size ≤ H.size ∧ ∀ q : Nat, q < G.2.2.2.2.size → H[q]? = G.2.2.2.2[q]?
/-! numbers -/
theorem bc_toInt {x : Int} (h : -2147483648 ≤ x ∧ x < 2147483648) : (Int32.ofInt x).toInt = x := Int32.toInt_ofInt_of_le (by omega) (by omega)
theorem bc_toIntL {x : Int} (h : -9223372036854775808 ≤ x ∧ x < 9223372036854775808) : (Int64.ofInt x).toInt = x := Int64.toInt_ofInt_of_le (by omega) (by omega)
theorem bc_lt {x y : Int} (hx : -2147483648 ≤ x ∧ x < 2147483648) (hy : -2147483648 ≤ y ∧ y < 2147483648) : Int32.ofInt x < Int32.ofInt y ↔ x < y := by
  rw [Int32.lt_iff_toInt_lt, bc_toInt hx, bc_toInt hy]
theorem bc_le {x y : Int} (hx : -2147483648 ≤ x ∧ x < 2147483648) (hy : -2147483648 ≤ y ∧ y < 2147483648) : Int32.ofInt x ≤ Int32.ofInt y ↔ x ≤ y := by
  rw [Int32.le_iff_toInt_le, bc_toInt hx, bc_toInt hy]
theorem bc_eq {x y : Int} (hx : -2147483648 ≤ x ∧ x < 2147483648) (hy : -2147483648 ≤ y ∧ y < 2147483648) : Int32.ofInt x = Int32.ofInt y ↔ x = y := by
  rw [← Int32.toInt_inj, bc_toInt hx, bc_toInt hy]
theorem bc_ltL {x y : Int} (hx : -9223372036854775808 ≤ x ∧ x < 9223372036854775808) (hy : -9223372036854775808 ≤ y ∧ y < 9223372036854775808) : Int64.ofInt x < Int64.ofInt y ↔ x < y := by
  rw [Int64.lt_iff_toInt_lt, bc_toIntL hx, bc_toIntL hy]
theorem bc_eqL {x y : Int} (hx : -9223372036854775808 ≤ x ∧ x < 9223372036854775808) (hy : -9223372036854775808 ≤ y ∧ y < 9223372036854775808) : Int64.ofInt x = Int64.ofInt y ↔ x = y := by
  rw [← Int64.toInt_inj, bc_toIntL hx, bc_toIntL hy]
theorem bc_of {x : Int32} {z : Int} (h : x.toInt = z) : x = Int32.ofInt z := by rw [← h, Int32.ofInt_toInt]
theorem bc_ofL {x : Int64} {z : Int} (h : x.toInt = z) : x = Int64.ofInt z := by rw [← h, Int64.ofInt_toInt]
theorem bc_clamp {x : Int} (h0 : 0 ≤ x) (h : x < 2147483648) : (Int32.ofInt x).toNatClampNeg = x.toNat := by
  show (Int32.ofInt x).toInt.toNat = x.toNat
  rw [bc_toInt ⟨by omega, h⟩]
theorem bc_in {x : Int} {n : Nat} (h : 0 ≤ x ∧ x < (n : Int)) (hn : (n : Int) < 2147483648) : vp_in (Int32.ofInt x) n := by
  refine vp_in_iff.mpr ?_
  rw [bc_toInt ⟨by omega, by omega⟩]
  exact h
theorem bc_div {x y : Int} (hx : 0 ≤ x ∧ x < 2147483648) (hy : 0 < y ∧ y < 2147483648) : Int32.ofInt x / Int32.ofInt y = Int32.ofInt (x / y) := by
  apply bc_of
  rw [Int32.toInt_div, bc_toInt ⟨by omega, hx.2⟩, bc_toInt ⟨by omega, hy.2⟩, Int.tdiv_eq_ediv_of_nonneg hx.1]
  have h1 : 0 ≤ x / y := Int.ediv_nonneg hx.1 (by omega)
  have h2 : x / y ≤ x := Int.ediv_le_self y hx.1
  exact Int.bmod_eq_of_le (by omega) (by omega)
theorem bc_rem {x y : Int} (hx : 0 ≤ x ∧ x < 2147483648) (hy : 0 < y ∧ y < 2147483648) : Int32.ofInt x - Int32.ofInt x / Int32.ofInt y * Int32.ofInt y = Int32.ofInt (x % y) := by
  rw [bc_div hx hy, ← Int32.ofInt_mul, ← Int32.ofInt_sub]
  congr 1
  have := Int.mul_ediv_add_emod x y
  rw [Int.mul_comm] at this
  omega
