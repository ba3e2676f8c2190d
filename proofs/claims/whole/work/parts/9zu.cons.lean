/-! CONSTRUCTION (gen_bk.py): the judgement over any heap predicate; cells in the order in which they are made -/
def bk_W (G : bc_G) (own : String) (cc : ByteArray) (mL : Nat) (rt : Option FieldType) (R : Room) (T : bg_T) (Qf : bg_E) (u v : Nat) (pc : Nat) (L : List (Option Value)) (st : List Value) (Hp : Heap → Prop) : Prop :=
  ∀ (p : Program) (e : Env) (s : State) (m : MethodId) (args : Array Value) (below : List Frame) (meth : Method) (c : Code) (H : Heap) (locs : List Loc) (ls : Array Slot),
    bg_C G own cc mL rt T p s m args meth c → lv_has ls mL (bc_prs 0 L) → Hp H → va_S (bc_A G) s.heap H locs →
    W p G.1 e R s m args below meth c H locs u v (Qf below args s) (F0 m pc ls st)
/-- where each cell lies -/
def zS (s : Int) : Int := if s = 0 then 4 else if s = 1 then 23 else 44 + 19 * (s - 2)
def zT (z : Int) : Int := if z = 12 then 257 else zS z + 1
def zP (j : Int) : Int := if j = 0 then 234 else 262
def zC (x : Int) : Int := if x = 48 then 285 else if x = 49 then 296 else zS (x / 4) + 7 + 3 * (x % 4)
def bz_off (k : Nat) (j : Int) : Int := match k with
  | 1 => 0 | 2 => 1 | 3 => 2 | 4 => 3
  | 5 => zS j | 6 => zT j | 7 => zT j + 1 | 8 => zT j + 2 | 9 => zT j + 3 | 10 => zT j + 4
  | 11 => zS j + 6 | 12 => zC j | 13 => zC j + 1 | 14 => zC j + 2 | 15 => 42 | 16 => 43
  | 17 => zP j | 18 => zP j + 1 | 19 => zP j + 2 | 20 => zP j + 3 | 21 => zP (j / 16) + 4 + j % 16 | 22 => zP j + 20 | 23 => zP j + 21 | 24 => zP j + 22
  | 25 => 288 | 26 => 289 | 27 => 290 | 28 => 291 | 29 => 292 | 30 => 293 | 31 => 294 | 32 => 295
  | 33 => 299 | 34 => 300 | 35 => 301 | 36 => 302 | 37 => 303 | 38 => 304 | 39 => 305 | 40 => 306 | 41 => 307 | 42 => 308 | 43 => 309 | 44 => 310 | 45 => 311 | 46 => 312 | 47 => 313 | 48 => 314 | 49 => 315 | 50 => 316 | 51 => 317 | 52 => 318
  | _ => 0
/-- the first memory -/
def bz_Z : bc_M := fun k _ f => match k with
  | 1 => if f = 2 then -1 else 0
  | 6 => if f = 1 then 1 else 0
  | 17 => if f = 0 ∨ f = 1 ∨ f = 3 ∨ f = 7 ∨ f = 8 then 1 else 0
  | 25 => if f = 4 then 1 else 0
  | 33 => if f = 18 then -1 else 0
  | _ => 0
def bz_ad (G : bc_G) : Prop := ∀ (k : Nat) (j : Int), 0 ≤ j → j < bc_n k → (G.2.2.2.1 k j : Int) = (G.2.2.2.2.size : Int) + bz_off k j
abbrev bz_C : Type := Nat → Int → va_E
def cu (C : bz_C) (k : Nat) (j : Int) (E : va_E) : bz_C := fun k' j' => if k' = k ∧ j' = j then E else C k' j'
theorem cu_at {C : bz_C} {k : Nat} {j : Int} {E : va_E} : cu C k j E k j = E := by unfold cu; rw [if_pos ⟨rfl, rfl⟩]
theorem cu_ne {C : bz_C} {k k' : Nat} {j j' : Int} {E : va_E} (h : ¬ (k' = k ∧ j' = j)) : cu C k j E k' j' = C k' j' := by unfold cu; rw [if_neg h]
theorem cu_cu {C : bz_C} {k : Nat} {j : Int} {E E' : va_E} : cu (cu C k j E) k j E' = cu C k j E' := by
  funext k' j'
  unfold cu
  split <;> rfl
theorem cu_self {C : bz_C} {k : Nat} {j : Int} {E : va_E} (h : C k j = E) : cu C k j E = C := by
  funext k' j'
  unfold cu
  split
  · rename_i q; rw [q.1, q.2]; exact h.symm
  · rfl
theorem cu_sw {C : bz_C} {k k2 : Nat} {j j2 : Int} {E E2 : va_E} (h : ¬ (k = k2 ∧ j = j2)) : cu (cu C k j E) k2 j2 E2 = cu (cu C k2 j2 E2) k j E := by
  funext k' j'
  unfold cu
  by_cases h1 : k' = k2 ∧ j' = j2
  · rw [if_pos h1, if_neg (fun q => h ⟨q.1.symm.trans h1.1, q.2.symm.trans h1.2⟩), if_pos h1]
  · rw [if_neg h1]
    by_cases h2 : k' = k ∧ j' = j
    · rw [if_pos h2, if_pos h2]
    · rw [if_neg h2, if_neg h2, if_neg h1]
def bz_C0 (G : bc_G) : bz_C := fun k j => bc_e G k j (bz_Z k j)
def bz_H (G : bc_G) (n : Int) (C : bz_C) (H : Heap) : Prop := bc_O G H ∧ (H.size : Int) = (G.2.2.2.2.size : Int) + n ∧ ∀ (k : Nat) (j : Int), 0 ≤ j → j < bc_n k → bz_off k j < n → va_at G.2.1 bc_cl (G.2.2.2.1 k j, C k j) H
/-- what isn't made yet will be as the first memory has it -/
def PL (G : bc_G) (C : bz_C) (n : Int) : Prop := ∀ (k : Nat) (j : Int), 0 ≤ j → j < bc_n k → n ≤ bz_off k j → C k j = bz_C0 G k j
theorem PL.cu {G : bc_G} {C : bz_C} {n m : Int} {k : Nat} {j : Int} {E : va_E} (h : PL G C n) (hm : n ≤ m) (ho : bz_off k j < m) : PL G (cu C k j E) m := fun k' j' a b c => by
  rw [cu_ne (fun q => by rw [q.1, q.2] at c; omega)]
  exact h k' j' a b (by omega)
theorem PL.le {G : bc_G} {C : bz_C} {n m : Int} (h : PL G C n) (hm : n ≤ m) : PL G C m := fun k j a b c => h k j a b (by omega)
def bz_rm (d cN cS : Nat) : Room := { frames := d, cells := cN, slots := cS, locals := 64 * d }
def bz_Q (G : bc_G) (Hp : Heap → Prop) : Array Value → State → Outcome → State → Prop := fun _ st o t => (o = .returned none ∧ Hp t.heap) ∧ va_F (bc_A G) st t
/-- what a constructor may ask of the machine beside bc_S: the classes of its arrays -/
def bz_S (G : bc_G) (U : State) : Prop := bc_S G U ∧ va_AO RX0 U ∧ va_AO RX6 U ∧ (Cond.arrayOver (.array .int)).before #[] U = true
def bz_Call (G : bc_G) (y : MethodName) (yc : ByteArray) (yL : Nat) (d cN cS : Nat) (as : List Value) (Hp Hp' : Heap → Prop) : Prop :=
  bc_ok G → vx_Met G.1 y (Cond.code y yc yL none :: bc_wd) (bz_rm d cN cS) (va_Pc as (fun U => (Hp U.heap ∧ bc_O G U.heap) ∧ bz_S G U)) (bz_Q G Hp') (fun _ _ _ => False) cN cS (bc_A G)
def bz_T (G : bc_G) : bg_T := fun _ s _ _ meth _ => meth.name = "<init>" ∧ bz_S G s
def bz_E (G : bc_G) (cN cS : Nat) (Hp' : Heap → Prop) : bg_E := fun below args s => vx_MQ below (bz_Q G Hp') (fun _ _ _ => False) args s cN cS (bc_A G)
section KROWS
variable {G : bc_G} {own : String} {cc : ByteArray} {mL : Nat} {rt : Option FieldType} {R : Room} {T : bg_T} {Qf : bg_E} {u v pc pc' : Nat} {L : List (Option Value)} {st : List Value} {Hp : Heap → Prop}
theorem wk_iload_n {i : Fin 4} {x : Int} (hd : bc_d cc pc (.iload_n i) 1 pc') (hn : bc_nth L i = some (vI x)) (K : bk_W G own cc mL rt R T Qf u v pc' L (vI x :: st) Hp) : bk_W G own cc mL rt R T Qf u v pc L st Hp := by
  intro p e s m args below meth c H locs ls C hl hH hS
  obtain ⟨hd, rfl⟩ := hd
  exact lv_iload_n C.1 C.2.1 hd rfl (bc_at hl hn) (K p e s m args below meth c H locs ls C hl hH hS)
theorem wk_iload {i : Nat} {x : Int} (hd : bc_d cc pc (.iload i) 2 pc') (hn : bc_nth L i = some (vI x)) (K : bk_W G own cc mL rt R T Qf u v pc' L (vI x :: st) Hp) : bk_W G own cc mL rt R T Qf u v pc L st Hp := by
  intro p e s m args below meth c H locs ls C hl hH hS
  obtain ⟨hd, rfl⟩ := hd
  exact lv_iload C.1 C.2.1 hd (bc_at hl hn) (K p e s m args below meth c H locs ls C hl hH hS)
theorem wk_aload_n {i : Fin 4} {k : Nat} {j : Int} (hd : bc_d cc pc (.aload_n i) 1 pc') (hn : bc_nth L i = some (vR G k j)) (K : bk_W G own cc mL rt R T Qf u v pc' L (vR G k j :: st) Hp) : bk_W G own cc mL rt R T Qf u v pc L st Hp := by
  intro p e s m args below meth c H locs ls C hl hH hS
  obtain ⟨hd, rfl⟩ := hd
  exact lv_aload_n C.1 C.2.1 hd rfl (bc_at hl hn) (K p e s m args below meth c H locs ls C hl hH hS)
theorem wk_aload {i : Nat} {k : Nat} {j : Int} (hd : bc_d cc pc (.aload i) 2 pc') (hn : bc_nth L i = some (vR G k j)) (K : bk_W G own cc mL rt R T Qf u v pc' L (vR G k j :: st) Hp) : bk_W G own cc mL rt R T Qf u v pc L st Hp := by
  intro p e s m args below meth c H locs ls C hl hH hS
  obtain ⟨hd, rfl⟩ := hd
  exact lv_aload C.1 C.2.1 hd (bc_at hl hn) (K p e s m args below meth c H locs ls C hl hH hS)
theorem wk_istore_n {i : Fin 4} {x : Int} {L2 : List (Option Value)} (hd : bc_d cc pc (.istore_n i) 1 pc') (hL : L.set (i : Nat) (some (vI x)) = L2) (K : bk_W G own cc mL rt R T Qf u v pc' L2 st Hp) (hp : bc_pre L (i : Nat) = true := by rfl) (hi : (i : Nat) < mL := by decide) : bk_W G own cc mL rt R T Qf u v pc L (vI x :: st) Hp := by
  intro p e s m args below meth c H locs ls C hl hH hS
  obtain ⟨hd, rfl⟩ := hd
  subst hL
  refine lv_istore_n C.1 C.2.1 hd rfl hl hi rfl (fun ls hl => ?_)
  exact K p e s m args below meth c H locs ls C (bc_put1 hp hl) hH hS
theorem wk_istore {i : Nat} {x : Int} {L2 : List (Option Value)} (hd : bc_d cc pc (.istore i) 2 pc') (hL : L.set i (some (vI x)) = L2) (K : bk_W G own cc mL rt R T Qf u v pc' L2 st Hp) (hp : bc_pre L i = true := by rfl) (hi : i < mL := by decide) : bk_W G own cc mL rt R T Qf u v pc L (vI x :: st) Hp := by
  intro p e s m args below meth c H locs ls C hl hH hS
  obtain ⟨hd, rfl⟩ := hd
  subst hL
  refine lv_istore C.1 C.2.1 hd hl hi rfl (fun ls hl => ?_)
  exact K p e s m args below meth c H locs ls C (bc_put1 hp hl) hH hS
theorem wk_astore_n {i : Fin 4} {k : Nat} {j : Int} {L2 : List (Option Value)} (hd : bc_d cc pc (.astore_n i) 1 pc') (hL : L.set (i : Nat) (some (vR G k j)) = L2) (K : bk_W G own cc mL rt R T Qf u v pc' L2 st Hp) (hp : bc_pre L (i : Nat) = true := by rfl) (hi : (i : Nat) < mL := by decide) : bk_W G own cc mL rt R T Qf u v pc L (vR G k j :: st) Hp := by
  intro p e s m args below meth c H locs ls C hl hH hS
  obtain ⟨hd, rfl⟩ := hd
  subst hL
  refine lv_astore_n C.1 C.2.1 hd rfl hl hi rfl (fun ls hl => ?_)
  exact K p e s m args below meth c H locs ls C (bc_put1 hp hl) hH hS
theorem wk_astore {i : Nat} {k : Nat} {j : Int} {L2 : List (Option Value)} (hd : bc_d cc pc (.astore i) 2 pc') (hL : L.set i (some (vR G k j)) = L2) (K : bk_W G own cc mL rt R T Qf u v pc' L2 st Hp) (hp : bc_pre L i = true := by rfl) (hi : i < mL := by decide) : bk_W G own cc mL rt R T Qf u v pc L (vR G k j :: st) Hp := by
  intro p e s m args below meth c H locs ls C hl hH hS
  obtain ⟨hd, rfl⟩ := hd
  subst hL
  refine lv_astore C.1 C.2.1 hd hl hi rfl (fun ls hl => ?_)
  exact K p e s m args below meth c H locs ls C (bc_put1 hp hl) hH hS
theorem wk_iinc {i : Nat} {n x : Int} {L2 : List (Option Value)} (hd : bc_d cc pc (.iinc i n) 3 pc') (hn : bc_nth L i = some (vI x)) (hL : L.set i (some (vI (x + n))) = L2) (K : bk_W G own cc mL rt R T Qf u v pc' L2 st Hp) (hp : bc_pre L i = true := by rfl) (hi : i < mL := by decide) : bk_W G own cc mL rt R T Qf u v pc L st Hp := by
  intro p e s m args below meth c H locs ls C hl hH hS
  obtain ⟨hd, rfl⟩ := hd
  subst hL
  have hm := bc_nth_mem L 0 i _ hn
  rw [Nat.zero_add] at hm
  obtain ⟨q, hq⟩ := List.getElem?_of_mem hm
  refine lv_iinc (k := q) (x := Int32.ofInt x) (v := Int32.ofInt (x + n)) C.1 C.2.1 hd hl hq (by rw [Int32.ofInt_add]) hi rfl (fun ls hl => ?_)
  exact K p e s m args below meth c H locs ls C (bc_put1 hp hl) hH hS
theorem wk_iconst {n : Int} (hd : bc_d cc pc (.iconst n) 1 pc') (K : bk_W G own cc mL rt R T Qf u v pc' L (vI n :: st) Hp) : bk_W G own cc mL rt R T Qf u v pc L st Hp := by
  intro p e s m args below meth c H locs ls C hl hH hS
  obtain ⟨hd, rfl⟩ := hd
  exact lv_iconst C.1 C.2.1 hd rfl (K p e s m args below meth c H locs ls C hl hH hS)
theorem wk_bipush {n : Int} (hd : bc_d cc pc (.bipush n) 2 pc') (K : bk_W G own cc mL rt R T Qf u v pc' L (vI n :: st) Hp) (hv : (Int8.ofInt n).toInt32 = Int32.ofInt n := by decide) : bk_W G own cc mL rt R T Qf u v pc L st Hp := by
  intro p e s m args below meth c H locs ls C hl hH hS
  obtain ⟨hd, rfl⟩ := hd
  exact lv_bipush C.1 C.2.1 hd hv (K p e s m args below meth c H locs ls C hl hH hS)
theorem wk_sipush {n : Int} (hd : bc_d cc pc (.sipush n) 3 pc') (K : bk_W G own cc mL rt R T Qf u v pc' L (vI n :: st) Hp) (hv : (Int16.ofInt n).toInt32 = Int32.ofInt n := by decide) : bk_W G own cc mL rt R T Qf u v pc L st Hp := by
  intro p e s m args below meth c H locs ls C hl hH hS
  obtain ⟨hd, rfl⟩ := hd
  exact lv_sipush C.1 C.2.1 hd hv (K p e s m args below meth c H locs ls C hl hH hS)
theorem wk_lconst0 (hd : bc_d cc pc (.lconst 0) 1 pc') (K : bk_W G own cc mL rt R T Qf u v pc' L (vJ 0 :: st) Hp) : bk_W G own cc mL rt R T Qf u v pc L st Hp := by
  intro p e s m args below meth c H locs ls C hl hH hS
  obtain ⟨hd, rfl⟩ := hd
  exact lv_lconst C.1 C.2.1 hd rfl (K p e s m args below meth c H locs ls C hl hH hS)
theorem wk_dup {a : Value} (hd : bc_d cc pc .dup 1 pc') (K : bk_W G own cc mL rt R T Qf u v pc' L (a :: a :: st) Hp) (ha : a.category = 1 := by rfl) : bk_W G own cc mL rt R T Qf u v pc L (a :: st) Hp := by
  intro p e s m args below meth c H locs ls C hl hH hS
  obtain ⟨hd, rfl⟩ := hd
  exact lv_dup C.1 C.2.1 hd ha (K p e s m args below meth c H locs ls C hl hH hS)
theorem wk_icmp_ge {a b : Int} {tgt : Nat} (hd : bc_dc cc pc .ge tgt pc') (KT : b ≤ a → bk_W G own cc mL rt R T Qf u v tgt L st Hp) (KF : ¬ (b ≤ a) → bk_W G own cc mL rt R T Qf u v pc' L st Hp) (ha : -2147483648 ≤ a ∧ a < 2147483648 := by omega) (hb : -2147483648 ≤ b ∧ b < 2147483648 := by omega) : bk_W G own cc mL rt R T Qf u v pc L (vI b :: vI a :: st) Hp := by
  intro p e s m args below meth c H locs ls C hl hH hS
  obtain ⟨⟨off, hd, ht⟩, rfl⟩ := hd
  exact lv_icmp_ge C.1 C.2.1 hd ht (fun h => KT ((bc_le hb ha).mp h) p e s m args below meth c H locs ls C hl hH hS) (fun h => KF (fun q => h ((bc_le hb ha).mpr q)) p e s m args below meth c H locs ls C hl hH hS)
theorem wk_goto {tgt : Nat} (hd : bc_dg cc pc tgt) (K : bk_W G own cc mL rt R T Qf u v tgt L st Hp) : bk_W G own cc mL rt R T Qf u v pc L st Hp := by
  intro p e s m args below meth c H locs ls C hl hH hS
  obtain ⟨off, hd, ht⟩ := hd
  exact lv_goto C.1 C.2.1 hd ht (K p e s m args below meth c H locs ls C hl hH hS)
theorem wk_weak {Hp' : Heap → Prop} (h : ∀ H, Hp H → Hp' H) (K : bk_W G own cc mL rt R T Qf u v pc L st Hp') : bk_W G own cc mL rt R T Qf u v pc L st Hp := by
  intro p e s m args below meth c H locs ls C hl hH hS
  exact K p e s m args below meth c H locs ls C hl (h H hH) hS
theorem wk_widen {k n : Nat} (h1 : u ≤ k) (h2 : v ≤ n) (K : bk_W G own cc mL rt R T Qf k n pc L st Hp) : bk_W G own cc mL rt R T Qf u v pc L st Hp := by
  intro p e s m args below meth c H locs ls C hl hH hS
  exact W.widen h1 h2 (K p e s m args below meth c H locs ls C hl hH hS)
theorem wk_return {cN cS : Nat} {Hp' : Heap → Prop} (hd : bc_d cc pc .return_ 1 pc') (K : ∀ H, Hp H → Hp' H) (hu : u ≤ cN := by decide) (hv : v ≤ cS := by decide) : bk_W G own cc mL none R T (bz_E G cN cS Hp') u v pc L [] Hp := by
  intro p e s m args below meth c H locs ls C hl hH hS
  obtain ⟨hd, -⟩ := hd
  refine W.widen (k := cN) (n := cS) hu hv ?_
  refine vx_ret ?_
  exact W.vret C.1 C.2.1 C.2.2.1 (fun t ht hW => ⟨⟨rfl, by rw [ht]; exact K H hH⟩, hS.F ht⟩) (fun q hq => hS.2.2 q hq) hd C.2.2.2.2.2.2.1
theorem wk_objInit {a : Nat} {idx : Nat} (hd : bc_d cc pc (.invokespecial idx) 3 pc') (w1 : Cond.methodLink own idx Lib.objectInit ∈ bc_wd) (w2 : Cond.instanceMethod Lib.objectInit ∈ bc_wd) (w3 : Cond.code Lib.objectInit ⟨#[0xb1]⟩ 1 none ∈ bc_wd) (hf : 1 ≤ R.frames ∧ 64 ≤ R.locals) (K : bk_W G own cc mL rt R T Qf u v pc' L [] Hp) : bk_W G own cc mL rt R T Qf u v pc L [.ref a] Hp := by
  intro p e s m args below meth c H locs ls C hl hH hS
  obtain ⟨hd, rfl⟩ := hd
  have hts := C.2.2.2.2.2.1
  refine W.objInit C.1 C.2.1 C.2.2.2.2.1 (hts _ w1) (hts _ w2) (hts _ w3) rfl (by rw [C.2.2.2.1]; exact hl.1) rfl hd hf.1 (by show 0 + 0 + 12 ≤ R.locals; omega) ?_
  exact K p e s m args below meth c H locs ls C hl hH hS
/-- one more cell -/
theorem bz_H_push {n : Int} {C : bz_C} {k : Nat} {j : Int} {E : va_E} {H H' : Heap} (hA : bz_ad G) (hok : bc_ok G) (hH : bz_H G n C H) (hj : 0 ≤ j ∧ j < bc_n k) (ho : bz_off k j = n) (z : H'.size = H.size + 1) (oq : ∀ q : Nat, q < H.size → H'[q]? = H[q]?) (h : va_at G.2.1 bc_cl (G.2.2.2.1 k j, E) H') : bz_H G (n + 1) (cu C k j E) H' := by
  refine ⟨⟨by rw [z]; have := hH.1.1; omega, fun q hq => ?_⟩, by rw [z]; have := hH.2.1; omega, fun k' j' h0 h1 h2 => ?_⟩
  · rw [oq q (by have := hH.1.1; omega)]
    exact hH.1.2 q hq
  · by_cases he : k' = k ∧ j' = j
    · obtain ⟨rfl, rfl⟩ := he
      rw [cu_at]
      exact h
    · rw [cu_ne he]
      have hne : bz_off k' j' ≠ n := fun q => by
        have a1 := hA k' j' h0 h1
        have a2 := hA k j hj.1 hj.2
        exact he (hok.2.2.2 k' k j' j h0 h1 hj.1 hj.2 (by omega))
      have h3 := hH.2.2 k' j' h0 h1 (by omega)
      exact h3.kept (oq _ h3.lt)
theorem bz_H_set {n : Int} {C : bz_C} {k : Nat} {j : Int} {E : va_E} {H H' : Heap} (hok : bc_ok G) (hH : bz_H G n C H) (hj : 0 ≤ j ∧ j < bc_n k) (z : H'.size = H.size) (oq : ∀ q : Nat, q ≠ G.2.2.2.1 k j → H'[q]? = H[q]?) (h : va_at G.2.1 bc_cl (G.2.2.2.1 k j, E) H') : bz_H G n (cu C k j E) H' := by
  refine ⟨⟨by rw [z]; exact hH.1.1, fun q hq => ?_⟩, by rw [z]; exact hH.2.1, fun k' j' h0 h1 h2 => ?_⟩
  · rw [oq q (fun e => by have := hok.2.2.1 k j hj.1 hj.2; omega)]
    exact hH.1.2 q hq
  · by_cases he : k' = k ∧ j' = j
    · obtain ⟨rfl, rfl⟩ := he
      rw [cu_at]
      exact h
    · rw [cu_ne he]
      exact (hH.2.2 k' j' h0 h1 h2).kept (oq _ (fun e => he (hok.2.2.2 k' k j' j h0 h1 hj.1 hj.2 e)))
theorem bz_S_push {s : State} {H H' : Heap} {locs : List Loc} {A : Nat → Prop} (hS : va_S A s.heap H locs) (z : H'.size = H.size + 1) (oq : ∀ q : Nat, q < H.size → H'[q]? = H[q]?) : va_S A s.heap H' locs := ⟨Nat.le_trans hS.1 (by omega), fun x h1 h2 => (oq x (Nat.lt_of_lt_of_le h1 hS.1)).trans (hS.2.1 x h1 h2), hS.2.2⟩
theorem wk_new {n : Int} {C : bz_C} {k : Nat} {j : Int} {idx ci Nn : Nat} {Cn : String} {T0 : u_T} {fs : List Value} (hA : bz_ad G) (hd : bc_d cc pc (.new idx) 3 pc') (hin : ∀ w ∈ u_ws Cn T0 Nn, w ∈ bc_wd) (ty : Nat → FieldType) (hty : ∀ k, k < Nn → parseFieldDescriptor (T0 k).2.2.1 = some (ty k)) (w1 : Cond.classLink own idx Cn ∈ bc_wd) (w2 : Cond.instantiable Cn Nn ∈ bc_wd) (w3 : Cond.initialized Cn ∈ bc_wd) (hc : bc_cl[ci]? = some (Cn, T0, Nn)) (hfs : ∀ j, j < Nn → defaultValue (ty j) = vp_V fs j) (hj : 0 ≤ j ∧ j < bc_n k) (ho : bz_off k j = n) (hN : u + 1 ≤ R.cells ∧ v + Nn ≤ R.slots)
    (K : bk_W G own cc mL rt R T Qf (u + 1) (v + Nn) pc' L (vR G k j :: st) (bz_H G (n + 1) (cu C k j (.inr (ci, fs))))) : bk_W G own cc mL rt R T Qf u v pc L st (bz_H G n C) := by
  intro p e s m args below meth c H locs ls C0 hl hH hS
  obtain ⟨hd, rfl⟩ := hd
  have hts := C0.2.2.2.2.2.1
  have hok := C0.2.2.2.2.2.2.2.2.2.1
  have hKn := C0.2.2.2.2.2.2.2.2.1.1.1 ci _ hc
  refine W.newcK C0.1 C0.2.1 C0.2.2.2.2.1 (hts _ w1) (hts _ w2) (hts _ w3) rfl hd hN.1 hN.2 hKn.2.1 rfl fun H1 kC hkC e1 z1 o1 => ?_
  have had : H.size = G.2.2.2.1 k j := by
    have a1 := hA k j hj.1 hj.2
    have a2 := hH.2.1
    omega
  have hv : Value.ref H.size = vR G k j := by unfold vR; rw [had]
  show W p G.1 e R s m args below meth c H1 locs (u + 1) (v + Nn) (Qf below args s) (F0 m (pc + 3) ls (Value.ref H.size :: st))
  rw [hv]
  refine K p e s m args below meth c H1 locs ls C0 hl (bz_H_push hA hok hH hj ho z1 o1 ?_) (bz_S_push hS z1 o1)
  rw [← had]
  exact ⟨_, hc, (u_born ty hts hin hKn hkC e1 hty).to hfs⟩
theorem wk_newa {n : Int} {C : bz_C} {k : Nat} {j : Int} {t N' : Nat} {x : Int} {atype : ArrayType} {ty : FieldType} {a1 : (Nat → Int32) ⊕ (Nat → Int64) ⊕ (Nat → UInt32) ⊕ (Nat → UInt64) ⊕ (Nat → Option Nat)} (hA : bz_ad G) (hd : bc_d cc pc (.newarray atype) 2 pc') (w1 : Cond.arrayClass (newarray.typeOf atype) ∈ bc_wd) (hty : newarray.typeOf atype = ty) (ht : (bc_tl G)[t]? = some (bc_ty G t, ty)) (hra : ∀ (U : State) (cA : ClassId), va_RA U cA ty → U.vm.findClass ("[" ++ ty.toString) = some cA) (hC : C k j = .inl (bc_ty G t, N', a1)) (ha : ∀ cA : ClassId, vp_cell cA (N', a1) = arrV cA N' (fun _ => defaultValue ty)) (hx : x = (N' : Int)) (hb : N' * componentBytes ty ≤ 536870912) (hb2 : N' < 2147483648) (hj : 0 ≤ j ∧ j < bc_n k) (ho : bz_off k j = n) (hN : u + 1 ≤ R.cells ∧ v + N' ≤ R.slots)
    (K : bk_W G own cc mL rt R T Qf (u + 1) (v + N') pc' L (vR G k j :: st) (bz_H G (n + 1) C)) : bk_W G own cc mL rt R T Qf u v pc L (vI x :: st) (bz_H G n C) := by
  intro p e s m args below meth c H locs ls C0 hl hH hS
  obtain ⟨hd, rfl⟩ := hd
  subst hty
  subst hx
  have hts := C0.2.2.2.2.2.1
  have hok := C0.2.2.2.2.2.2.2.2.2.1
  have hcl : (Int32.ofInt (N' : Int)).toNatClampNeg = N' := by rw [bc_clamp (by omega) (by omega)]; omega
  have had : H.size = G.2.2.2.1 k j := by
    have a1 := hA k j hj.1 hj.2
    have a2 := hH.2.1
    omega
  have hv : Value.ref H.size = vR G k j := by unfold vR; rw [had]
  refine va_newaK C0.1 C0.2.1 (hts _ w1) rfl hd (n := Int32.ofInt (N' : Int)) rfl (by rw [show (0 : Int32) = Int32.ofInt 0 from rfl, bc_lt (by omega) (by omega)]; omega) hcl hb hN.1 hN.2 rfl fun H1 cA e1 z1 o1 hAr hNm => ?_
  have hcA : cA = bc_ty G t := Option.some.inj (hNm.symm.trans (hra s _ (C0.2.2.2.2.2.2.2.2.1.1.2 t _ (bc_tyAt hok t ht)).2))
  subst hcA
  show W p G.1 e R s m args below meth c H1 locs (u + 1) (v + N') (Qf below args s) (F0 m (pc + 2) ls (Value.ref H.size :: st))
  rw [hv]
  have h1 : bz_H G (n + 1) (cu C k j (.inl (bc_ty G t, N', a1))) H1 := bz_H_push hA hok hH hj ho z1 o1 (by
    show H1[G.2.2.2.1 k j]? = some (vp_cell _ _)
    rw [ha, ← had]
    exact e1)
  rw [cu_self hC] at h1
  exact K p e s m args below meth c H1 locs ls C0 hl h1 (bz_S_push hS z1 o1)
theorem wk_anew {n : Int} {C : bz_C} {k : Nat} {j : Int} {t N' idx : Nat} {x : Int} {Cn : String} (hA : bz_ad G) (hd : bc_d cc pc (.anewarray idx) 3 pc') (w1 : Cond.classLink own idx Cn ∈ bc_wd) (hAO : ∀ s, bz_S G s → va_AO Cn s) (ht : (bc_tl G)[t]? = some (bc_ty G t, .object Cn)) (hx : x = (N' : Int)) (hb : N' * 4 ≤ 536870912) (hj : 0 ≤ j ∧ j < bc_n k) (ho : bz_off k j = n) (hN : u + 1 ≤ R.cells ∧ v + N' ≤ R.slots)
    (K : bk_W G own cc mL rt R (bz_T G) Qf (u + 1) (v + N') pc' L (vR G k j :: st) (bz_H G (n + 1) (cu C k j (.inl (bc_ty G t, N', .inr (.inr (.inr (.inr (fun _ => none))))))))) : bk_W G own cc mL rt R (bz_T G) Qf u v pc L (vI x :: st) (bz_H G n C) := by
  intro p e s m args below meth c H locs ls C0 hl hH hS
  obtain ⟨hd, rfl⟩ := hd
  subst hx
  have hts := C0.2.2.2.2.2.1
  have hok := C0.2.2.2.2.2.2.2.2.2.1
  have hcl : (Int32.ofInt (N' : Int)).toNatClampNeg = N' := by rw [bc_clamp (by omega) (by omega)]; omega
  have had : H.size = G.2.2.2.1 k j := by
    have a1 := hA k j hj.1 hj.2
    have a2 := hH.2.1
    omega
  have hv : Value.ref H.size = vR G k j := by unfold vR; rw [had]
  refine W.anew C0.1 C0.2.1 C0.2.2.2.2.1 (hts _ w1) (va_AO.use (hAO s C0.2.2.2.2.2.2.2.1.2)) rfl hd (n := Int32.ofInt (N' : Int)) rfl (by rw [show (0 : Int32) = Int32.ofInt 0 from rfl, bc_lt (by omega) (by omega)]; omega) (by rw [hcl]; exact hb) hN.1 (by rw [hcl]; exact hN.2) fun cA kA comp f1 f2 f3 f4 => ?_
  rw [hcl]
  generalize hH1 : H.push ({ cls := cA, slots := Array.replicate N' .null, vm := .none } : Cell) = H1
  have z1 : H1.size = H.size + 1 := by rw [← hH1, Array.size_push]
  have e1 : H1[H.size]? = some (arrV cA N' (fun _ => .null)) := by rw [← hH1, Array.getElem?_push_size, ← arrV_new]
  have o1 : ∀ q : Nat, q < H.size → H1[q]? = H[q]? := fun q hq => by rw [← hH1, Array.getElem?_push, if_neg (Nat.ne_of_lt hq)]
  obtain ⟨_, _, _, _, _, g4⟩ := (C0.2.2.2.2.2.2.2.2.1.1.2 t _ (bc_tyAt hok t ht)).2
  have hcA : cA = bc_ty G t := Option.some.inj (f1.symm.trans g4)
  subst hcA
  show W p G.1 e R s m args below meth c H1 locs (u + 1) (v + N') (Qf below args s) (F0 m (pc + 3) ls (Value.ref H.size :: st))
  rw [hv]
  refine K p e s m args below meth c H1 locs ls C0 hl (bz_H_push hA hok hH hj ho z1 o1 ?_) (bz_S_push hS z1 o1)
  show H1[G.2.2.2.1 k j]? = some (vp_cell _ _)
  rw [vp_cell_q, ← had]
  exact e1
theorem wk_get {n : Int} {C : bz_C} {k f : Nat} {j : Int} {idx ci Nn : Nat} {Cn : String} {T0 : u_T} {w : Value} {fs : List Value} (hd : bc_d cc pc (.getfield idx) 3 pc') (hc : bc_cl[ci]? = some (Cn, T0, Nn)) (hin : ∀ w ∈ u_ws Cn T0 Nn, w ∈ bc_wd) (hf : f < Nn) (hw : Cond.fieldLink own idx (T0 f).1 (T0 f).2.1 (T0 f).2.2.1 ∈ bc_wd) (he : C k j = .inr (ci, fs)) (hv : fs[f]? = some w) (hj : 0 ≤ j ∧ j < bc_n k) (ho : bz_off k j < n) (K : bk_W G own cc mL rt R T Qf u v pc' L (w :: st) (bz_H G n C)) : bk_W G own cc mL rt R T Qf u v pc L (vR G k j :: st) (bz_H G n C) := by
  intro p e s m args below meth c H locs ls C0 hl hH hS
  obtain ⟨hd, rfl⟩ := hd
  have ha := hH.2.2 k j hj.1 hj.2 ho
  rw [he] at ha
  exact va_get (ref := (T0 f).1) C0.1 C0.2.1 C0.2.2.2.2.2.1 hin C0.2.2.2.2.1 C0.2.2.2.2.2.2.2.2.1.1 (bc_one ha) 0 rfl hc f hf (C0.2.2.2.2.2.1 _ hw) (fun x h => h) hv hd (K p e s m args below meth c H locs ls C0 hl hH hS)
theorem wk_put {n : Int} {C : bz_C} {k f : Nat} {j : Int} {idx ci Nn : Nat} {Cn : String} {T0 : u_T} {w : Value} {fs : List Value} {ty0 : Nat → FieldType} (hd : bc_d cc pc (.putfield idx) 3 pc') (hc : bc_cl[ci]? = some (Cn, T0, Nn)) (hin : ∀ w ∈ u_ws Cn T0 Nn, w ∈ bc_wd) (hty : ∀ k, k < Nn → parseFieldDescriptor (T0 k).2.2.1 = some (ty0 k)) (hnm : ∀ a, a < Nn → ∀ b, b < Nn → a ≠ b → (T0 a).2.1 ≠ (T0 b).2.1) (hf : f < Nn) (hw : Cond.fieldLink own idx (T0 f).1 (T0 f).2.1 (T0 f).2.2.1 ∈ bc_wd) (hdecl : (T0 f).1 = own) (he : C k j = .inr (ci, fs)) (hl0 : f < fs.length) (hn : narrow (ty0 f) w = w) (hfit : fits (ty0 f) w = true) (hj : 0 ≤ j ∧ j < bc_n k) (ho : bz_off k j < n)
    (K : bk_W G own cc mL rt R (bz_T G) Qf u v pc' L st (bz_H G n (cu C k j (.inr (ci, fs.set f w))))) : bk_W G own cc mL rt R (bz_T G) Qf u v pc L (w :: vR G k j :: st) (bz_H G n C) := by
  intro p e s m args below meth c H locs ls C0 hl hH hS
  obtain ⟨hd, rfl⟩ := hd
  have hts := C0.2.2.2.2.2.1
  have hok := C0.2.2.2.2.2.2.2.2.2.1
  have hK := C0.2.2.2.2.2.2.2.2.1.1
  have hown := C0.2.2.2.2.1
  have ha := hH.2.2 k j hj.1 hj.2 ho
  rw [he] at ha
  have hap := va_apart (own := own) hts hin ty0 hty hnm hK hc
  obtain ⟨r, h1, cell, q1, q2, q3, q4⟩ := ha
  have hr : r = _ := Option.some.inj (h1.symm.trans hc)
  subst hr
  obtain ⟨hSl, hfc, kC, hkC, hkind⟩ := hK.1 ci _ hc
  obtain ⟨cf, kf, fi, fd, hi, hsl⟩ := hSl f hf
  have hlay := hts _ (hin _ (u_in_lay hf))
  have hst := (u_facts hfc hkC (u_lays hts hin hf) hi).1
  unfold u_lay at hlay
  by_cases hfin : (T0 f).2.2.2 = true
  · rw [if_pos hfin] at hlay
    have hcf : m.cls = cf := by
      obtain ⟨_, _, c', _, _, _, -, -, hf', -, -, -, hown2, -⟩ := Cond.laysFinal_spec hlay
      have e1 : c' = cf := by have := hi.symm.trans hf'; simp at this; exact this.1.symm
      rw [hdecl] at hown2
      rw [← e1]; exact Option.some.inj (hown.symm.trans hown2)
    have h6 := u_fits hfc hkC hkind (Or.inr hlay) hi (hty f hf) hn hfit
    refine W.putFinK C0.1 C0.2.1 hown (hts _ hw) hi hst hcf C0.2.2.2.2.2.2.2.1.1 (by rw [q2]; exact h6) q1 q3 (by rw [hsl]; exact k2_hasslot (q4 f hf)) rfl rfl hd fun H' e1 e2 e3 => ?_
    rw [hsl] at e1 ⊢
    refine K p e s m args below meth c H' _ ls C0 hl (bz_H_set hok hH hj e2 e3 ?_) (hS.put e2 e3 (hok.2.2.1 k j hj.1 hj.2))
    exact ⟨_, hc, t_OB.to (V := updV (vp_V fs) f w) ⟨_, e1, q2, q3, t_set q4 hap hf w⟩ (fun j _ => vp_updV_set hl0 w j)⟩
  · rw [if_neg hfin] at hlay
    have h6 := u_store hfc hkC hkind hlay hi (hty f hf) hn hfit
    refine W.putK C0.1 C0.2.1 (f := fd) ⟨hown, hts _ hw, ⟨_, _, _, hi⟩, hst⟩ (by rw [q2]; exact h6) q1 q3 (by rw [hsl]; exact k2_hasslot (q4 f hf)) rfl rfl hd fun H' e1 e2 e3 => ?_
    rw [hsl] at e1 ⊢
    refine K p e s m args below meth c H' _ ls C0 hl (bz_H_set hok hH hj e2 e3 ?_) (hS.put e2 e3 (hok.2.2.1 k j hj.1 hj.2))
    exact ⟨_, hc, t_OB.to (V := updV (vp_V fs) f w) ⟨_, e1, q2, q3, t_set q4 hap hf w⟩ (fun j _ => vp_updV_set hl0 w j)⟩
theorem wk_aast {n : Int} {C : bz_C} {k k2 : Nat} {j j2 i : Int} {t N' ci Nn : Nat} {Cn : String} {T0 : u_T} {fs : List Value} {a : Nat → Option Nat} (hd : bc_d cc pc .aastore 1 pc') (hc : bc_cl[ci]? = some (Cn, T0, Nn)) (ht : (bc_tl G)[t]? = some (bc_ty G t, .object Cn)) (he : C k j = .inl (bc_ty G t, N', .inr (.inr (.inr (.inr a))))) (he2 : C k2 j2 = .inr (ci, fs)) (hi : 0 ≤ i ∧ i < (N' : Int)) (hN' : (N' : Int) < 2147483648) (hj : 0 ≤ j ∧ j < bc_n k) (ho : bz_off k j < n) (hj2 : 0 ≤ j2 ∧ j2 < bc_n k2) (ho2 : bz_off k2 j2 < n)
    (K : bk_W G own cc mL rt R T Qf u v pc' L st (bz_H G n (cu C k j (.inl (bc_ty G t, N', .inr (.inr (.inr (.inr (fun q => if q = i.toNat then some (G.2.2.2.1 k2 j2) else a q))))))))) : bk_W G own cc mL rt R T Qf u v pc L (vR G k2 j2 :: vI i :: vR G k j :: st) (bz_H G n C) := by
  intro p e s m args below meth c H locs ls C0 hl hH hS
  obtain ⟨hd, rfl⟩ := hd
  have hok := C0.2.2.2.2.2.2.2.2.2.1
  have hK := C0.2.2.2.2.2.2.2.2.1.1
  have ha := hH.2.2 k j hj.1 hj.2 ho
  rw [he] at ha
  have ha2 := hH.2.2 k2 j2 hj2.1 hj2.2 ho2
  rw [he2] at ha2
  obtain ⟨r', hr', cellV, g1, g2, g3, -⟩ := ha2
  have hr : r' = _ := Option.some.inj (hr'.symm.trans hc)
  subst hr
  have hcls := (hK.1 ci _ hc).2
  obtain ⟨kA, comp, k1, k2', k3, -⟩ := (hK.2 t _ (bc_tyAt hok t ht)).2
  have hcomp : comp = G.2.1.1 ci := Option.some.inj (k3.symm.trans hcls.1)
  subst hcomp
  obtain ⟨kC, hkC, -⟩ := hcls.2
  have hin := bc_in hi hN'
  refine W.aast C0.1 C0.2.1 ha (fun q h => by cases h) (fun h => by cases h) k1 k2' rfl hkC ⟨fun q => hin (Or.inl q), by show _ < (arrV _ _ _).slots.size; rw [arrV_size]; exact Nat.not_le.mp fun q => hin (Or.inr q)⟩ g1 (fun q h => by rw [g3] at h; cases h) (by rw [g2]; exact hkC) (by rw [g2]; exact va_assign hcls) rfl rfl hd fun H1 e z oq => ?_
  refine K p _ s m args below meth c H1 _ ls C0 hl (bz_H_set hok hH hj z oq ?_) (hS.put z oq (hok.2.2.1 k j hj.1 hj.2))
  show H1[_]? = some (vp_cell _ _)
  rw [e, bc_clamp hi.1 (by omega)]
  rw [vp_cell_q, vp_cell_q, arrV_store]
  congr 2
  funext q
  by_cases hq : q = i.toNat
  · subst hq
    simp [updV, va_rf]
  · simp [updV, hq]
theorem bz_enter {y : MethodName} {yc : ByteArray} {yL : Nat} {d cN cS : Nat} {as : List Value} {Hp' : Heap → Prop} (hy : plainName y.cls = true) (hnm : y.name = "<init>") (hL : bc_prs 0 L = lv_args 0 as) (hlen : Nat.ble (lg_sl as).length yL = true) (K : bk_W G y.cls yc yL none (bz_rm d cN cS) (bz_T G) (bz_E G cN cS Hp') 0 0 0 L [] Hp) : bz_Call G y yc yL d cN cS as Hp Hp' := by
  intro ok
  refine vx_ofW (cc := yc) (maxL := yL) (ret := none) hy rfl ?_
  intro p e s m args below meth c s₁ B hml hx0 hv
  obtain ⟨rfl, ⟨hH, hO⟩, hSS⟩ := hv
  have hl := lv_entry as (n := yL) (Nat.le_of_ble_eq_true hlen)
  rw [lg_entry_eq]
  have hts := atoms_spec (ws := Cond.code y yc yL none :: bc_wd) B.pre
  exact K p e s m _ below meth c s.heap [] _ ⟨B.exec, B.bytes, B.returns, hml, findClass_of_methodNamed B.named, fun w hw => hts w (List.mem_cons_of_mem _ hw), B.notSynchronized, ⟨(name_of_methodNamed B.named B.method).1.trans hnm, hSS⟩, hSS.1, ok, hO⟩ (by rw [hL]; exact hl) hH va_S.rf
theorem va_AOI.moved {u U : State} (hvm : u.vm.Alike U.vm) (h : (Cond.arrayOver (.array .int)).before #[] u = true) : (Cond.arrayOver (.array .int)).before #[] U = true := by
  unfold Cond.before Cond.holds at h ⊢
  simp only [Cond.value, beq_iff_eq] at h ⊢
  cases hc : u.vm.findClass (FieldType.array .int).toString with
  | none => simp [hc] at h
  | some comp =>
    have f1 : U.vm.findClass (FieldType.array .int).toString = some comp := by rw [hvm.findClass]; exact hc
    rw [hc] at h
    rw [f1]
    simp only [Option.bind_some, Option.bind_eq_some_iff, Option.map_eq_some_iff] at h ⊢
    obtain ⟨c, hi, k, hk, hb⟩ := h
    obtain ⟨k', hk', he⟩ := hvm.2.2 _ _ hk
    refine ⟨c, ?_, k', hk', ?_⟩
    · refine (va_idx_bare U.vm comp).symm.trans ?_
      first | rw [hvm.bare_eq] | rw [← hvm.bare_eq]
      exact (va_idx_bare u.vm comp).trans hi
    · have hkk : k'.kind = k.kind := by rw [he]
      rw [hkk, hvm.findClass]
      exact hb
theorem bz_S.warm {s U : State} (hW : s.WarmedH U.vm) (h : bz_S G s) : bz_S G U := ⟨h.1.warm hW, h.2.1.moved hW.alike, h.2.2.1.moved hW.alike, va_AOI.moved hW.alike h.2.2.2⟩
theorem bz_blind {as : List Value} {Hp : Heap → Prop} : FrameBlind (va_Pc as (fun U => (Hp U.heap ∧ bc_O G U.heap) ∧ bz_S G U)) := fun a U g mk q => by
  obtain ⟨q0, qH, qS⟩ := q
  exact ⟨q0, qH, bz_S.warm (s := U) (U := U.calling g mk a) (State.WarmedH.refl U) qS⟩
theorem bk_ran {p : Program} {e : Env} {s : State} {m : MethodId} {args : Array Value} {below : List Frame} {meth : Method} {c : Code} {H : Heap} {locs : List Loc} {ls : Array Slot} {cN cS : Nat} {st0 : List Value} {a : Array Value} {Hp' : Heap → Prop}
    (C : bg_C G own cc mL rt T p s m args meth c) (hl : lv_has ls mL (bc_prs 0 L)) (hS : va_S (bc_A G) s.heap H locs) (K : bk_W G own cc mL rt R T Qf (u + cN) (v + cS) (pc + 3) L st Hp')
    (hr : vx_Run p G.1 e R s m args below meth c H locs u v cN cS (F0 m pc ls st0) st (bz_Q G Hp' a) (fun _ _ _ => False) (bc_A G)) :
    W p G.1 e R s m args below meth c H locs u v (Qf below args s) (F0 m pc ls st0) := by
  intro T9 hT X9
  rcases hr T9 hT X9 with ⟨w, st₀, t, T', L1, h0, X', hL1, e1, e2, ⟨⟨hv, hH'⟩, hF⟩, stp⟩ | ⟨q, st₀, t, T', L1, E, ce, h0, X', hL1, e1, e2, hf, _⟩
  · cases hv
    obtain ⟨k1, k2, k3⟩ := vx_keep h0 e1 hS (fun q _ h => h) (fun q h => h) hL1 hF
    obtain ⟨t2, a1, b1⟩ := K p e s m args below meth c T'.heap (locs ++ L1) ls C hl (by rw [e1]; exact hH') k3 T' rfl X'
    exact ⟨t2, stp t2 a1, b1⟩
  · exact hf.elim
/-- a call of a constructor; bz_T or the law's own T must give bz_S -/
theorem wk_init {k : Nat} {j : Int} {idx d' cN cS : Nat} {y : MethodName} {yc : ByteArray} {yL : Nat} {Hp' : Heap → Prop} (hT : ∀ p s m args meth c, T p s m args meth c → bz_S G s) (hO : ∀ H, Hp H → bc_O G H) (hd : bc_d cc pc (.invokespecial idx) 3 pc') (w1 : Cond.methodLink own idx y ∈ bc_wd) (w2 : Cond.instanceMethod y ∈ bc_wd) (w4 : Cond.initialized y.cls ∈ bc_wd) (w5 : Cond.code y yc yL none ∈ bc_wd)
    (hy : y.cls ≠ "java/lang/invoke/MethodHandle" ∧ y.cls ≠ "java/lang/invoke/VarHandle" ∧ (parseMethodDescriptor y.desc).map (fun d => d.parameters.length) = some 0) (hnm : y.name = "<init>") (hyL : yL ≤ 45) (hdd : d' + 1 ≤ R.frames ∧ 64 + 64 * d' ≤ R.locals) (hN : u + cN ≤ R.cells ∧ v + cS ≤ R.slots) (hst : Nat.ble ((st.map fun v => v.category).sum) 8 = true)
    (h : bz_Call G y yc yL d' cN cS [vR G k j] Hp Hp') (K : bk_W G own cc mL rt R T Qf (u + cN) (v + cS) pc' L st Hp') : bk_W G own cc mL rt R T Qf u v pc L (vR G k j :: st) Hp := by
  intro p e s m args below meth c H locs ls C hl hH hS
  obtain ⟨hd, rfl⟩ := hd
  have hts := C.2.2.2.2.2.1
  have hSS := hT p s m args meth c C.2.2.2.2.2.2.2.1
  exact bk_ran C hl hS K (vx_runI (As := []) (rest := st) (n := 0) (rm := bz_rm d' cN cS) ⟨C.1, C.2.1, C.2.2.2.1, C.2.2.2.2.1, hts⟩ (h C.2.2.2.2.2.2.2.2.2.1) ⟨callB_of 0 hts (bc_goodIn w5) rfl rfl rfl (hts _ w4) (hts _ w1) hy ⟨hdd.1, by show 8 + (yL + 11) + 64 * d' ≤ R.locals; omega⟩, hnm, hts _ w2⟩ ⟨bz_blind, fun U hU hW => ⟨rfl, by rw [hU]; exact ⟨hH, hO H hH⟩, hSS.warm hW⟩⟩ rfl rfl hl.1 rfl (lv_room (Nat.le_of_ble_eq_true hst)) hd hN)
theorem wk_initN {k : Nat} {j : Int} {idx d' cN cS : Nat} {host : String} {y : MethodName} {yc : ByteArray} {yL : Nat} {Hp' : Heap → Prop} (hT : ∀ p s m args meth c, T p s m args meth c → bz_S G s) (hO : ∀ H, Hp H → bc_O G H) (hd : bc_d cc pc (.invokespecial idx) 3 pc') (w1 : Cond.methodLinkNest own idx y host ∈ bc_nest) (w2 : Cond.instanceMethod y ∈ bc_wd) (w4 : Cond.initialized y.cls ∈ bc_wd) (w5 : Cond.code y yc yL none ∈ bc_wd)
    (hy : y.cls ≠ "java/lang/invoke/MethodHandle" ∧ y.cls ≠ "java/lang/invoke/VarHandle" ∧ (parseMethodDescriptor y.desc).map (fun d => d.parameters.length) = some 0) (hnm : y.name = "<init>") (hyL : yL ≤ 45) (hdd : d' + 1 ≤ R.frames ∧ 64 + 64 * d' ≤ R.locals) (hN : u + cN ≤ R.cells ∧ v + cS ≤ R.slots) (hst : Nat.ble ((st.map fun v => v.category).sum) 8 = true)
    (h : bz_Call G y yc yL d' cN cS [vR G k j] Hp Hp') (K : bk_W G own cc mL rt R T Qf (u + cN) (v + cS) pc' L st Hp') : bk_W G own cc mL rt R T Qf u v pc L (vR G k j :: st) Hp := by
  intro p e s m args below meth c H locs ls C hl hH hS
  obtain ⟨hd, rfl⟩ := hd
  have hts := C.2.2.2.2.2.1
  have hSS := hT p s m args meth c C.2.2.2.2.2.2.2.1
  exact bk_ran C hl hS K (vx_runIN (As := []) (rest := st) (n := 0) (host := host) (rm := bz_rm d' cN cS) ⟨C.1, C.2.1, C.2.2.2.1, C.2.2.2.2.1, hts⟩ (h C.2.2.2.2.2.2.2.2.2.1) ⟨va_cnB 0 hts (bc_goodIn w5) rfl rfl rfl (hSS.1.2.1 _ w1) (hts _ w4) hy ⟨hdd.1, by show 8 + (yL + 11) + 64 * d' ≤ R.locals; omega⟩, hnm, hts _ w2⟩ ⟨bz_blind, fun U hU hW => ⟨rfl, by rw [hU]; exact ⟨hH, hO H hH⟩, hSS.warm hW⟩⟩ rfl rfl hl.1 rfl (lv_room (Nat.le_of_ble_eq_true hst)) hd hN)
end KROWS
