/-! the law's body: its script, its end -/
def lw_T (G : bc_G) (b Ls : Nat) (xs : Nat → Int32) : bg_T := fun _ s _ args _ _ => args = #[Value.ref b] ∧ va_X b Ls xs s s.heap ∧ b < s.heap.size ∧ G.2.2.2.2 = s.heap
def lw_E : bg_E := fun below args s => lw_Z below args s
def sx (xs : Nat → Int32) (i : Int) : Int := (xs i.toNat).toInt
theorem sx_rng {xs : Nat → Int32} {i : Int} : -2147483648 ≤ sx xs i ∧ sx xs i < 2147483648 := by
  have h1 := Int32.le_toInt (xs i.toNat)
  have h2 := Int32.toInt_lt (xs i.toNat)
  unfold sx
  omega
theorem vI_nat {n : Nat} : Value.int (Int32.ofNat n) = vI (n : Int) := by
  unfold vI
  congr 1
section LAWB
variable {G : bc_G} {b Ls : Nat} {xs : Nat → Int32} {u v pc pc' : Nat} {L : List (Option Value)} {st : List Value} {M : bc_M}
theorem wg_end (hd : bc_d cL_law pc .ireturn 1 pc') (hu : u ≤ 601024) (hv : v ≤ 7293034) : bg_W G RL cL_law 9 ret room_1 (lw_T G b Ls xs) lw_E u v pc L [vI 1] M := by
  intro p e s m args below meth c H locs ls C hl hH hS
  obtain ⟨rfl, hX, hbl, hG⟩ := C.2.2.2.2.2.2.2.1
  obtain ⟨hd, -⟩ := hd
  refine va_forget (fun q hq => by have := hS.2.2 q hq; unfold bc_A at this; rw [hG] at this; exact this) ?_
  refine W.widen (k := 601024) (n := 7293034) hu hv ?_
  have h := lw_ret (p := p) (l := G.1) (e := e) (s := s) (m := m) (below := below) (meth := meth) (c := c) (b := b) (d0 := s.drawn) (pc := pc) (H := H) (ls := ls) (Drawn.sameBut.refl s.drawn lw_cs) C.1 C.2.1 C.2.2.1 C.2.2.2.2.2.2.1 hd
  exact h
theorem wg_slen (hd : bc_d cL_law pc .arraylength 1 pc') (K : bg_W G RL cL_law 9 ret room_1 (lw_T G b Ls xs) lw_E u v pc' L (vI (Ls : Int) :: st) M) : bg_W G RL cL_law 9 ret room_1 (lw_T G b Ls xs) lw_E u v pc L (.ref b :: st) M := by
  intro p e s m args below meth c H locs ls C hl hH hS
  obtain ⟨h0, hX, hbl, hG⟩ := C.2.2.2.2.2.2.2.1
  obtain ⟨hd, rfl⟩ := hd
  refine va_slen C.1 C.2.1 hX hbl (A := bc_A G) (by unfold bc_A; rw [hG]; exact Nat.not_le.mpr hbl) hS hd ?_
  rw [vI_nat]
  exact K p e s m args below meth c H locs ls C hl hH hS
theorem wg_sld {i : Int} (hd : bc_d cL_law pc .iaload 1 pc') (K : bg_W G RL cL_law 9 ret room_1 (lw_T G b Ls xs) lw_E u v pc' L (vI (sx xs i) :: st) M) (hi : 0 ≤ i ∧ i < (Ls : Int) := by omega) (hL : Ls ≤ 3072 := by omega) : bg_W G RL cL_law 9 ret room_1 (lw_T G b Ls xs) lw_E u v pc L (vI i :: .ref b :: st) M := by
  intro p e s m args below meth c H locs ls C hl hH hS
  obtain ⟨h0, hX, hbl, hG⟩ := C.2.2.2.2.2.2.2.1
  obtain ⟨hd, rfl⟩ := hd
  refine va_sld C.1 C.2.1 hX hbl (A := bc_A G) (by unfold bc_A; rw [hG]; exact Nat.not_le.mpr hbl) hS (i := Int32.ofInt i) (bc_in hi (by omega)) hd ?_
  rw [bc_clamp hi.1 (by omega)]
  have e : Value.int (xs i.toNat) = vI (sx xs i) := by
    unfold vI sx
    rw [Int32.ofInt_toInt]
  rw [e]
  exact K p _ s m args below meth c H locs ls C hl hH hS
end LAWB
theorem u64_nat (z : UInt64) : UInt64.ofNat (Int.toNat (z.toNat : Int)) = z := by simp
