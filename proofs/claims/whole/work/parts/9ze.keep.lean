/-! the invariant between two calls of the law -/
def KK (M : bc_M) (n : Int) : Prop := (M 1 0 3 = 0 ∨ M 1 0 3 = 1) ∧ M 33 0 3 = M 1 0 3 ∧ TX M ∧ M 33 0 18 = M 1 0 2 ∧ (∀ q, 0 ≤ q → q < 16 → 0 ≤ M 9 0 q ∧ M 9 0 q < 10000) ∧ (0 ≤ M 33 0 2 ∧ M 33 0 2 ≤ 10) ∧ (0 ≤ M 33 0 5 ∧ M 33 0 5 ≤ 4) ∧ (0 ≤ M 33 0 6 ∧ M 33 0 6 ≤ 16) ∧ (0 ≤ M 33 0 7 ∧ M 33 0 7 ≤ 4) ∧ (0 ≤ M 15 0 1 ∧ M 15 0 1 < 10) ∧ 0 ≤ n ∧ (M 1 0 3 = 0 → M 33 0 7 = 0) ∧ (M 1 0 3 = 1 → CU M n ∧ HS M n ∧ BS M 0 1)
/-- cells that the invariant doesn't read, the model's fields aside -/
def IR : Nat → Int → Prop := fun k j => ((6 ≤ k ∧ k ≤ 10) ∧ j = 12) ∨ bpP 1 k j ∨ (25 ≤ k ∧ k ≤ 32) ∨ ((k = 12 ∨ k = 13 ∨ k = 14) ∧ 48 ≤ j) ∨ 39 ≤ k ∨ k = 3 ∨ k = 4
def KE (M M' : bc_M) : Prop := Fr (fun k j => IR k j ∨ k = 33) M M' ∧ ∀ f, f < 24 → f ≠ 4 → M' 33 0 f = M 33 0 f
theorem KE.rf {M : bc_M} : KE M M := ⟨Fr.rf, fun _ _ _ => rfl⟩
theorem KE.tr {M M1 M2 : bc_M} (h : KE M M1) (h2 : KE M1 M2) : KE M M2 := ⟨h.1.tr h2.1, fun f a b => (h2.2 f a b).trans (h.2 f a b)⟩
theorem KE.fr {P : Nat → Int → Prop} {M M' : bc_M} (h : Fr P M M') (hp : ∀ k j, P k j → IR k j ∧ k ≠ 33) : KE M M' := ⟨h.mono (fun k j q => Or.inl (hp k j q).1), fun f _ _ => by rw [h 33 0 (fun q => (hp 33 0 q).2 rfl)]⟩
theorem KE.up4 {M : bc_M} {v : Int} : KE M (bc_up M 33 0 4 v) := ⟨Fr.up (Or.inr rfl), fun f _ b => by rw [up_v, if_neg b]⟩
theorem KE.o51 {M : bc_M} {v : Int} : KE M (bc_up M 51 0 0 v) := KE.fr (P := fun k _ => k = 51) (Fr.up rfl) (fun k j q => by unfold IR; omega)
theorem KE.o52 {M : bc_M} {v : Int} : KE M (bc_up M 52 0 0 v) := KE.fr (P := fun k _ => k = 52) (Fr.up rfl) (fun k j q => by unfold IR; omega)
theorem KE.qm {M M' : bc_M} (h : QM M M') : KE M M' := ⟨h.1.mono (fun k j q => by unfold mqP at q; unfold IR; omega), fun f a b => h.2.1 f a b⟩
theorem KE.ftr {M M' : bc_M} (h : Fr trP M M') : KE M M' := KE.fr h (fun k j q => by unfold trP bpP at q; unfold IR bpP; omega)
theorem KE.fpl {M M' : bc_M} (h : Fr plP M M') : KE M M' := KE.fr h (fun k j q => by unfold plP CLP at q; unfold IR bpP; omega)
theorem KE.fcl {M M' : bc_M} (h : Fr (CLP 48) M M') : KE M M' := KE.fr h (fun k j q => by unfold CLP at q; unfold IR bpP; omega)
theorem KE.fdv {M M' : bc_M} (h : Fr dvP M M') : KE M M' := KE.fr h (fun k j q => by unfold dvP trP bpP at q; unfold IR bpP; omega)
theorem KE.rk {M : bc_M} {z : Int} : KE M (rkM M z) := KE.fr (P := fun k _ => k = 26 ∨ k = 27) (fun k j q => by unfold rkM; rw [row_kne (by omega), row_kne (by omega)]) (fun k j q => by unfold IR; omega)
theorem KK.e {M M' : bc_M} {n m : Int} (h : KK M n) (e : KE M M') (hm : n ≤ m) : KK M' m := by
  obtain ⟨h1, h2, h3, h4, h5, h6, h7, h8, h9, h10, hn, h12, h11⟩ := h
  have e1 : M' 1 0 = M 1 0 := e.1 1 0 (by unfold IR bpP; omega)
  have e2 : M' 2 0 = M 2 0 := e.1 2 0 (by unfold IR bpP; omega)
  have e9 : M' 9 0 = M 9 0 := e.1 9 0 (by unfold IR bpP; omega)
  have e15 : M' 15 0 = M 15 0 := e.1 15 0 (by unfold IR bpP; omega)
  have e34 : M' 34 0 = M 34 0 := e.1 34 0 (by unfold IR bpP; omega)
  have e35 : M' 35 0 = M 35 0 := e.1 35 0 (by unfold IR bpP; omega)
  have e36 : M' 36 0 = M 36 0 := e.1 36 0 (by unfold IR bpP; omega)
  have e37 : M' 37 0 = M 37 0 := e.1 37 0 (by unfold IR bpP; omega)
  have e38 : M' 38 0 = M 38 0 := e.1 38 0 (by unfold IR bpP; omega)
  have f2 := e.2 2 (by decide) (by decide)
  have f3 := e.2 3 (by decide) (by decide)
  have f5 := e.2 5 (by decide) (by decide)
  have f6 := e.2 6 (by decide) (by decide)
  have f7 := e.2 7 (by decide) (by decide)
  have f11 := e.2 11 (by decide) (by decide)
  have f18 := e.2 18 (by decide) (by decide)
  have hMK : MK M M' := ⟨f5, f6, f7, e36, e37⟩
  have eS : ∀ a, 1 ≤ a → a ≤ 11 → ∀ k j, STP a k j → M' k j = M k j := fun a _ _ k j hk => e.1 k j (by unfold IR bpP; unfold STP at hk; omega)
  unfold KK
  rw [f2, f3, f5, f6, f7, f18, e1, e9, e15]
  refine ⟨h1, h2, ?_, h4, h5, h6, h7, h8, h9, h10, by omega, h12, fun hl => ?_⟩
  · unfold TX
    rw [f11, e1, e38, e2]
    exact h3
  · obtain ⟨c, hh, hb⟩ := h11 hl
    have h63 : M 6 1 3 ≤ 16 := by rw [c.1.1.2.2.2]; omega
    refine ⟨c.q (eS 1 (by omega) (by omega)) (by rw [e34]; exact AG.rf) hMK hm, hh.q (fun a x y => eS a (by omega) y) e15 e35 f2 hMK hm, hb.cong (fun k hk => eS 1 (by omega) (by omega) k 1 (Or.inl ⟨by omega, rfl⟩)) (fun k hk => e.1 k 0 (by unfold IR bpP; omega)) (fun q x y => e.1 21 q (by unfold IR bpP; omega)) h63⟩
theorem KK.l33 {M : bc_M} {n : Int} (h : KK M n) : M 33 0 3 = 0 ∨ M 33 0 3 = 1 := by rw [h.2.1]; exact h.1
theorem KK.a2 {M : bc_M} {n : Int} (h : KK M n) : 0 ≤ M 33 0 2 ∧ M 33 0 2 ≤ 10 := h.2.2.2.2.2.1
theorem KK.a5 {M : bc_M} {n : Int} (h : KK M n) : 0 ≤ M 33 0 5 ∧ M 33 0 5 ≤ 4 := h.2.2.2.2.2.2.1
theorem KK.a6 {M : bc_M} {n : Int} (h : KK M n) : 0 ≤ M 33 0 6 ∧ M 33 0 6 ≤ 16 := h.2.2.2.2.2.2.2.1
theorem KK.a7 {M : bc_M} {n : Int} (h : KK M n) : 0 ≤ M 33 0 7 ∧ M 33 0 7 ≤ 4 := h.2.2.2.2.2.2.2.2.1
theorem KK.n0 {M : bc_M} {n : Int} (h : KK M n) : 0 ≤ n := h.2.2.2.2.2.2.2.2.2.2.1
theorem KK.cu {M : bc_M} {n : Int} (h : KK M n) (h1 : M 1 0 3 = 1) : CU M n ∧ HS M n ∧ BS M 0 1 := h.2.2.2.2.2.2.2.2.2.2.2.2 h1
theorem KK.eqs {M : bc_M} {n : Int} (h : KK M n) (h1 : M 1 0 3 = 1) : M 6 1 2 = M 33 0 5 ∧ M 6 1 3 = M 33 0 6 ∧ M 5 1 1 = M 33 0 7 := ⟨(h.cu h1).1.1.1.2.2.1, (h.cu h1).1.1.1.2.2.2, (h.cu h1).1.1.2.2.2.1⟩
theorem KK.li {M : bc_M} {n : Int} (h : KK M n) (h1 : M 1 0 3 = 1) : LI M n := by
  obtain ⟨c, hh, hb⟩ := h.cu h1
  refine ⟨c.1.si c.2, hb, hh.1, by rw [hh.2.1.1]; exact hh.2.1.2, fun q a b => ?_⟩
  rw [hh.2.1.1] at b
  exact (hh.2.2 q a b).1.si (hh.2.2 q a b).2
theorem KK.ms {M : bc_M} {n : Int} (h : KK M n) (h1 : M 33 0 3 = 1) : MS M (rDk (M 34 0)) (rFr (M 34 0)) (rPop (M 34 0)) (rBnd (M 34 0)) (M 33 0 5) (M 33 0 6) (M 34 0 52) (M 34 0 53) := by
  obtain ⟨c, hh, hb⟩ := h.cu (by rw [← h.2.1]; exact h1)
  exact ⟨c.2.1, ⟨rfl, rfl⟩, fun _ _ _ => rfl, fun _ _ _ => rfl, ⟨rfl, rfl⟩, fun _ _ _ => ⟨rfl, rfl⟩, c.2.2.1⟩
theorem KK.cn {M : bc_M} {n : Int} (h : KK M n) : ∀ c, 0 ≤ c → c < M 33 0 7 → (0 ≤ M 36 0 c ∧ M 36 0 c ≤ 4) ∧ (0 ≤ M 37 0 c ∧ M 37 0 c ≤ 2) ∧ QI (mc M c) (M 33 0 6) n := by
  intro c a b
  rcases h.1 with h0 | h1
  · have := h.2.2.2.2.2.2.2.2.2.2.2.1 h0
    omega
  · exact (h.cu h1).1.2.2.2.2 c a b
theorem KK.c0 {M : bc_M} {n : Int} (h : KK M n) (hn : n ≤ 2800) : ∀ c, 0 ≤ c → c < M 33 0 7 → (0 ≤ mc M c 0 ∧ mc M c 0 ≤ 100000000) ∧ (0 ≤ mc M c 5 ∧ mc M c 5 < 65536) := by
  intro c a b
  have hq := (h.cn c a b).2.2
  exact ⟨⟨hq.1.1, by have := hq.1.2; omega⟩, hq.2.2.2.2.1⟩
/-- how the law compares -/
def w32 (x : Int) : Int := (Int32.ofInt x).toInt
def AFI (cs : List (String × Int)) (F : Int → bc_M → Prop) : bc_R → bc_M → Prop := fun r M1 => match r with
  | .inl E => ∃ k, (E, k) ∈ cs ∧ F k M1
  | .inr v => ∃ x, v = some (vI x) ∧ F 0 (bc_up M1 51 0 0 (w32 x))
def AFJ (cs : List (String × Int)) (F : Int → bc_M → Prop) : bc_R → bc_M → Prop := fun r M1 => match r with
  | .inl E => ∃ k, (E, k) ∈ cs ∧ F k M1
  | .inr v => ∃ x, v = some (vJ x) ∧ F 0 (bc_up M1 51 0 0 x)
def AFD (cs : List (String × Int)) (F : Int → bc_M → Prop) : bc_R → bc_M → Prop := fun r M1 => match r with
  | .inl E => ∃ k, (E, k) ∈ cs ∧ F k M1
  | .inr v => ∃ x : UInt64, v = some (.double x) ∧ F 0 (bc_up M1 52 0 0 (x.toNat : Int))
def MPI (n k : Int) : bc_R → bc_M → Prop := fun r M3 => ∃ b, r = .inr (some (vI b)) ∧ M3 33 0 4 = k ∧ (k = 0 → M3 51 0 0 = w32 b) ∧ KK M3 (n + 1)
def MPJ (n k : Int) : bc_R → bc_M → Prop := fun r M3 => ∃ b, r = .inr (some (vJ b)) ∧ M3 33 0 4 = k ∧ (k = 0 → M3 51 0 0 = b) ∧ KK M3 (n + 1)
def MPD (n k : Int) : bc_R → bc_M → Prop := fun r M3 => ∃ b : UInt64, r = .inr (some (.double b)) ∧ M3 33 0 4 = k ∧ (k = 0 → M3 52 0 0 = (b.toNat : Int)) ∧ KK M3 (n + 1)
def csA : List (String × Int) := [("java/lang/IllegalStateException", 1), ("java/lang/IllegalArgumentException", 2)]
def csS : List (String × Int) := [("java/lang/IllegalStateException", 1)]
def csT : List (String × Int) := [("java/lang/IllegalArgumentException", 1)]
def csN : List (String × Int) := [("java/lang/IllegalStateException", 1), ("java/lang/IllegalArgumentException", 2), ("java/util/NoSuchElementException", 3)]
theorem mp1 {M : bc_M} {n v : Int} (h : KK M n) (hv : v ≠ 0 := by decide) : MPI n v (.inr (some (vI 0))) (bc_up M 33 0 4 v) := ⟨0, rfl, by rw [up_v, if_pos rfl], fun e => absurd e hv, h.e KE.up4 (by omega)⟩
theorem mp1J {M : bc_M} {n v : Int} (h : KK M n) (hv : v ≠ 0 := by decide) : MPJ n v (.inr (some (vJ 0))) (bc_up M 33 0 4 v) := ⟨0, rfl, by rw [up_v, if_pos rfl], fun e => absurd e hv, h.e KE.up4 (by omega)⟩
theorem mp1D {M : bc_M} {n v : Int} (h : KK M n) (hv : v ≠ 0 := by decide) : MPD n v (.inr (some (.double FP.dconst0))) (bc_up M 33 0 4 v) := ⟨_, rfl, by rw [up_v, if_pos rfl], fun e => absurd e hv, h.e KE.up4 (by omega)⟩
theorem mpu {M : bc_M} {n b : Int} (h : KK M n) (e : M 51 0 0 = w32 b) : MPI n 0 (.inr (some (vI b))) (bc_up M 33 0 4 0) := ⟨b, rfl, by rw [up_v, if_pos rfl], fun _ => by rw [up_kne (by decide)]; exact e, h.e KE.up4 (by omega)⟩
theorem mpq {M M3 : bc_M} {n b : Int} (h : KK M n) (hQ : QM M M3) (e : M 51 0 0 = w32 b) : MPI n 0 (.inr (some (vI b))) M3 := ⟨b, rfl, hQ.2.2, fun _ => by rw [hQ.1 51 0 (by unfold mqP; omega)]; exact e, h.e (KE.qm hQ) (by omega)⟩
theorem mpqJ {M M3 : bc_M} {n b : Int} (h : KK M n) (hQ : QM M M3) (e : M 51 0 0 = b) : MPJ n 0 (.inr (some (vJ b))) M3 := ⟨b, rfl, hQ.2.2, fun _ => by rw [hQ.1 51 0 (by unfold mqP; omega)]; exact e, h.e (KE.qm hQ) (by omega)⟩
theorem mpqD {M M3 : bc_M} {n : Int} {b : UInt64} (h : KK M n) (hQ : QM M M3) (e : M 52 0 0 = (b.toNat : Int)) : MPD n 0 (.inr (some (.double b))) M3 := ⟨b, rfl, hQ.2.2, fun _ => by rw [hQ.1 52 0 (by unfold mqP; omega)]; exact e, h.e (KE.qm hQ) (by omega)⟩
/-- the model behind the class's question -/
theorem KQ0 {M M2 : bc_M} {n : Int} (hK : KK M n) (h1 : M 1 0 3 = 1) (e : KE M M2) : KK M2 n ∧ MS M2 (rDk (M 34 0)) (rFr (M 34 0)) (rPop (M 34 0)) (rBnd (M 34 0)) (M 33 0 5) (M 33 0 6) (M 34 0 52) (M 34 0 53) ∧ M2 33 0 3 = 1 ∧ (M2 33 0 5 = M 33 0 5 ∧ M2 33 0 6 = M 33 0 6 ∧ M2 33 0 7 = M 33 0 7) ∧ M2 34 0 = M 34 0 ∧ M2 36 0 = M 36 0 ∧ M2 37 0 = M 37 0 := by
  have K2 := hK.e e (Int.le_refl _)
  have f5 := e.2 5 (by decide) (by decide)
  have f6 := e.2 6 (by decide) (by decide)
  have f7 := e.2 7 (by decide) (by decide)
  have e34 : M2 34 0 = M 34 0 := e.1 34 0 (by unfold IR bpP; omega)
  have l3 : M2 33 0 3 = 1 := by rw [e.2 3 (by decide) (by decide), hK.2.1]; exact h1
  have hm := K2.ms l3
  rw [e34, f5, f6] at hm
  exact ⟨K2, hm, l3, ⟨f5, f6, f7⟩, e34, e.1 36 0 (by unfold IR bpP; omega), e.1 37 0 (by unfold IR bpP; omega)⟩
theorem KQ {M M' : bc_M} {n w : Int} (hK : KK M n) (h1 : M 1 0 3 = 1) (e : KE M M') {C : bc_M → Prop} (k : ∀ M2 : bc_M, KK M2 n → MS M2 (rDk (M 34 0)) (rFr (M 34 0)) (rPop (M 34 0)) (rBnd (M 34 0)) (M 33 0 5) (M 33 0 6) (M 34 0 52) (M 34 0 53) → M2 33 0 3 = 1 → (M2 33 0 5 = M 33 0 5 ∧ M2 33 0 6 = M 33 0 6 ∧ M2 33 0 7 = M 33 0 7) → M2 34 0 = M 34 0 ∧ M2 36 0 = M 36 0 ∧ M2 37 0 = M 37 0 → M2 51 0 0 = w → C M2) : C (bc_up M' 51 0 0 w) := by
  obtain ⟨K2, hm, l3, hf, h34⟩ := KQ0 hK h1 (e.tr KE.o51 (M2 := bc_up M' 51 0 0 w))
  exact k _ K2 hm l3 hf h34 (by rw [up_v, if_pos rfl])
theorem KQD {M M' : bc_M} {n w : Int} (hK : KK M n) (h1 : M 1 0 3 = 1) (e : KE M M') {C : bc_M → Prop} (k : ∀ M2 : bc_M, KK M2 n → MS M2 (rDk (M 34 0)) (rFr (M 34 0)) (rPop (M 34 0)) (rBnd (M 34 0)) (M 33 0 5) (M 33 0 6) (M 34 0 52) (M 34 0 53) → M2 33 0 3 = 1 → (M2 33 0 5 = M 33 0 5 ∧ M2 33 0 6 = M 33 0 6 ∧ M2 33 0 7 = M 33 0 7) → M2 34 0 = M 34 0 ∧ M2 36 0 = M 36 0 ∧ M2 37 0 = M 37 0 → M2 52 0 0 = w → C M2) : C (bc_up M' 52 0 0 w) := by
  obtain ⟨K2, hm, l3, hf, h34⟩ := KQ0 hK h1 (e.tr KE.o52 (M2 := bc_up M' 52 0 0 w))
  exact k _ K2 hm l3 hf h34 (by rw [up_v, if_pos rfl])
