/-! THE JUDGEMENT, with any room and any end (gen_bg.py) -/
abbrev bg_T : Type := Program → State → MethodId → Array Value → Method → Code → Prop
abbrev bg_E : Type := List Frame → Array Value → State → State → Prop
def bg_C (G : bc_G) (own : String) (cc : ByteArray) (mL : Nat) (rt : Option FieldType) (T : bg_T) (p : Program) (s : State) (m : MethodId) (args : Array Value) (meth : Method) (c : Code) : Prop :=
  p.tables.exec = Jvm.exec ∧ c.code = cc ∧ meth.sig.returnType = rt ∧ c.maxLocals = mL ∧ s.vm.findClass own = some m.cls ∧ (∀ w ∈ bc_wd, w.before args s = true) ∧ meth.locks = false ∧ T p s m args meth c ∧ bc_S G s ∧ bc_ok G ∧ bc_O G s.heap
def bg_W (G : bc_G) (own : String) (cc : ByteArray) (mL : Nat) (rt : Option FieldType) (R : Room) (T : bg_T) (Qf : bg_E) (u v : Nat) (pc : Nat) (L : List (Option Value)) (st : List Value) (M : bc_M) : Prop :=
  ∀ (p : Program) (e : Env) (s : State) (m : MethodId) (args : Array Value) (below : List Frame) (meth : Method) (c : Code) (H : Heap) (locs : List Loc) (ls : Array Slot),
    bg_C G own cc mL rt T p s m args meth c → lv_has ls mL (bc_prs 0 L) → bc_H G M H → va_S (bc_A G) s.heap H locs →
    W p G.1 e R s m args below meth c H locs u v (Qf below args s) (F0 m pc ls st)
section GROWS
variable {G : bc_G} {own : String} {cc : ByteArray} {mL : Nat} {rt : Option FieldType} {R : Room} {T : bg_T} {Qf : bg_E} {u v pc pc' : Nat} {L : List (Option Value)} {st : List Value} {M : bc_M}
theorem wg_iload_n {i : Fin 4} {x : Int} (hd : bc_d cc pc (.iload_n i) 1 pc') (hn : bc_nth L i = some (vI x)) (K : bg_W G own cc mL rt R T Qf u v pc' L (vI x :: st) M) : bg_W G own cc mL rt R T Qf u v pc L st M := by
  intro p e s m args below meth c H locs ls C hl hH hS
  obtain ⟨hd, rfl⟩ := hd
  exact lv_iload_n C.1 C.2.1 hd rfl (bc_at hl hn) (K p e s m args below meth c H locs ls C hl hH hS)
theorem wg_iload {i : Nat} {x : Int} (hd : bc_d cc pc (.iload i) 2 pc') (hn : bc_nth L i = some (vI x)) (K : bg_W G own cc mL rt R T Qf u v pc' L (vI x :: st) M) : bg_W G own cc mL rt R T Qf u v pc L st M := by
  intro p e s m args below meth c H locs ls C hl hH hS
  obtain ⟨hd, rfl⟩ := hd
  exact lv_iload C.1 C.2.1 hd (bc_at hl hn) (K p e s m args below meth c H locs ls C hl hH hS)
theorem wg_lload {i : Nat} {x : Int} (hd : bc_d cc pc (.lload i) 2 pc') (hn : bc_nth L i = some (vJ x)) (K : bg_W G own cc mL rt R T Qf u v pc' L (vJ x :: st) M) : bg_W G own cc mL rt R T Qf u v pc L st M := by
  intro p e s m args below meth c H locs ls C hl hH hS
  obtain ⟨hd, rfl⟩ := hd
  exact lv_lload C.1 C.2.1 hd (bc_at hl hn) (K p e s m args below meth c H locs ls C hl hH hS)
theorem wg_aload_n {i : Fin 4} {k : Nat} {j : Int} (hd : bc_d cc pc (.aload_n i) 1 pc') (hn : bc_nth L i = some (vR G k j)) (K : bg_W G own cc mL rt R T Qf u v pc' L (vR G k j :: st) M) : bg_W G own cc mL rt R T Qf u v pc L st M := by
  intro p e s m args below meth c H locs ls C hl hH hS
  obtain ⟨hd, rfl⟩ := hd
  exact lv_aload_n C.1 C.2.1 hd rfl (bc_at hl hn) (K p e s m args below meth c H locs ls C hl hH hS)
theorem wg_aload {i : Nat} {k : Nat} {j : Int} (hd : bc_d cc pc (.aload i) 2 pc') (hn : bc_nth L i = some (vR G k j)) (K : bg_W G own cc mL rt R T Qf u v pc' L (vR G k j :: st) M) : bg_W G own cc mL rt R T Qf u v pc L st M := by
  intro p e s m args below meth c H locs ls C hl hH hS
  obtain ⟨hd, rfl⟩ := hd
  exact lv_aload C.1 C.2.1 hd (bc_at hl hn) (K p e s m args below meth c H locs ls C hl hH hS)
theorem wg_dload {i : Nat} {x : UInt64} (hd : bc_d cc pc (.dload i) 2 pc') (hn : bc_nth L i = some (.double x)) (K : bg_W G own cc mL rt R T Qf u v pc' L (.double x :: st) M) : bg_W G own cc mL rt R T Qf u v pc L st M := by
  intro p e s m args below meth c H locs ls C hl hH hS
  obtain ⟨hd, rfl⟩ := hd
  exact lv_dload C.1 C.2.1 hd (bc_at hl hn) (K p e s m args below meth c H locs ls C hl hH hS)
theorem wg_aload_o {i : Nat} {a : Nat} (hd : bc_d cc pc (.aload i) 2 pc') (hn : bc_nth L i = some (.ref a)) (K : bg_W G own cc mL rt R T Qf u v pc' L (.ref a :: st) M) : bg_W G own cc mL rt R T Qf u v pc L st M := by
  intro p e s m args below meth c H locs ls C hl hH hS
  obtain ⟨hd, rfl⟩ := hd
  exact lv_aload C.1 C.2.1 hd (bc_at hl hn) (K p e s m args below meth c H locs ls C hl hH hS)
theorem wg_aload_no {i : Fin 4} {a : Nat} (hd : bc_d cc pc (.aload_n i) 1 pc') (hn : bc_nth L i = some (.ref a)) (K : bg_W G own cc mL rt R T Qf u v pc' L (.ref a :: st) M) : bg_W G own cc mL rt R T Qf u v pc L st M := by
  intro p e s m args below meth c H locs ls C hl hH hS
  obtain ⟨hd, rfl⟩ := hd
  exact lv_aload_n C.1 C.2.1 hd rfl (bc_at hl hn) (K p e s m args below meth c H locs ls C hl hH hS)
theorem wg_istore {i : Nat} {x : Int} {L2 : List (Option Value)} (hd : bc_d cc pc (.istore i) 2 pc') (hL : L.set i (some (vI x)) = L2) (K : bg_W G own cc mL rt R T Qf u v pc' L2 st M) (hp : bc_pre L i = true := by rfl) (hi : i < mL := by decide) : bg_W G own cc mL rt R T Qf u v pc L (vI x :: st) M := by
  intro p e s m args below meth c H locs ls C hl hH hS
  obtain ⟨hd, rfl⟩ := hd
  subst hL
  refine lv_istore C.1 C.2.1 hd hl hi rfl (fun ls hl => ?_)
  exact K p e s m args below meth c H locs ls C (bc_put1 hp hl) hH hS
theorem wg_istore_n {i : Fin 4} {x : Int} {L2 : List (Option Value)} (hd : bc_d cc pc (.istore_n i) 1 pc') (hL : L.set (i : Nat) (some (vI x)) = L2) (K : bg_W G own cc mL rt R T Qf u v pc' L2 st M) (hp : bc_pre L (i : Nat) = true := by rfl) (hi : (i : Nat) < mL := by decide) : bg_W G own cc mL rt R T Qf u v pc L (vI x :: st) M := by
  intro p e s m args below meth c H locs ls C hl hH hS
  obtain ⟨hd, rfl⟩ := hd
  subst hL
  refine lv_istore_n C.1 C.2.1 hd rfl hl hi rfl (fun ls hl => ?_)
  exact K p e s m args below meth c H locs ls C (bc_put1 hp hl) hH hS
theorem wg_forget {L2 : List (Option Value)} (h : ∀ (i : Nat) (v : Value), bc_nth L2 i = some v → bc_nth L i = some v) (K : bg_W G own cc mL rt R T Qf u v pc L2 st M) : bg_W G own cc mL rt R T Qf u v pc L st M := by
  intro p e s m args below meth c H locs ls C hl hH hS
  refine K p e s m args below meth c H locs ls C ⟨hl.1, hl.2.1, fun q hq => ?_⟩ hH hS
  obtain ⟨k, w⟩ := q
  obtain ⟨i, h1, h2⟩ := bc_mem_nth _ _ _ _ hq
  rw [Nat.zero_add] at h1
  subst h1
  exact bc_at hl (h _ _ h2)
theorem wg_iconst {n : Int} (hd : bc_d cc pc (.iconst n) 1 pc') (K : bg_W G own cc mL rt R T Qf u v pc' L (vI n :: st) M) : bg_W G own cc mL rt R T Qf u v pc L st M := by
  intro p e s m args below meth c H locs ls C hl hH hS
  obtain ⟨hd, rfl⟩ := hd
  exact lv_iconst C.1 C.2.1 hd rfl (K p e s m args below meth c H locs ls C hl hH hS)
theorem wg_bipush {n : Int} (hd : bc_d cc pc (.bipush n) 2 pc') (K : bg_W G own cc mL rt R T Qf u v pc' L (vI n :: st) M) (hv : (Int8.ofInt n).toInt32 = Int32.ofInt n := by decide) : bg_W G own cc mL rt R T Qf u v pc L st M := by
  intro p e s m args below meth c H locs ls C hl hH hS
  obtain ⟨hd, rfl⟩ := hd
  exact lv_bipush C.1 C.2.1 hd hv (K p e s m args below meth c H locs ls C hl hH hS)
theorem wg_iadd {a b : Int} (hd : bc_d cc pc .iadd 1 pc') (K : bg_W G own cc mL rt R T Qf u v pc' L (vI (a + b) :: st) M) : bg_W G own cc mL rt R T Qf u v pc L (vI b :: vI a :: st) M := by
  intro p e s m args below meth c H locs ls C hl hH hS
  obtain ⟨hd, rfl⟩ := hd
  refine lv_iadd C.1 C.2.1 hd ?_
  rw [← Int32.ofInt_add]
  exact K p e s m args below meth c H locs ls C hl hH hS
theorem wg_isub {a b : Int} (hd : bc_d cc pc .isub 1 pc') (K : bg_W G own cc mL rt R T Qf u v pc' L (vI (a - b) :: st) M) : bg_W G own cc mL rt R T Qf u v pc L (vI b :: vI a :: st) M := by
  intro p e s m args below meth c H locs ls C hl hH hS
  obtain ⟨hd, rfl⟩ := hd
  refine lv_isub C.1 C.2.1 hd ?_
  rw [← Int32.ofInt_sub]
  exact K p e s m args below meth c H locs ls C hl hH hS
theorem wg_iand {a b : Int} (hd : bc_d cc pc .iand 1 pc') (K : bg_W G own cc mL rt R T Qf u v pc' L (vI (bx_and a b) :: st) M) : bg_W G own cc mL rt R T Qf u v pc L (vI b :: vI a :: st) M := by
  intro p e s m args below meth c H locs ls C hl hH hS
  obtain ⟨hd, rfl⟩ := hd
  refine lv_iand C.1 C.2.1 hd ?_
  have := K p e s m args below meth c H locs ls C hl hH hS
  simp only [vI, bx_and, Int32.ofInt_toInt] at this
  exact this
theorem wg_iinc {i : Nat} {n x : Int} {L2 : List (Option Value)} (hd : bc_d cc pc (.iinc i n) 3 pc') (hn : bc_nth L i = some (vI x)) (hL : L.set i (some (vI (x + n))) = L2) (K : bg_W G own cc mL rt R T Qf u v pc' L2 st M) (hp : bc_pre L i = true := by rfl) (hi : i < mL := by decide) : bg_W G own cc mL rt R T Qf u v pc L st M := by
  intro p e s m args below meth c H locs ls C hl hH hS
  obtain ⟨hd, rfl⟩ := hd
  subst hL
  have hm := bc_nth_mem L 0 i _ hn
  rw [Nat.zero_add] at hm
  obtain ⟨q, hq⟩ := List.getElem?_of_mem hm
  refine lv_iinc (k := q) (x := Int32.ofInt x) (v := Int32.ofInt (x + n)) C.1 C.2.1 hd hl hq (by rw [Int32.ofInt_add]) hi rfl (fun ls hl => ?_)
  exact K p e s m args below meth c H locs ls C (bc_put1 hp hl) hH hS
theorem wg_icmp_eq {a b : Int} {tgt : Nat} (hd : bc_dc cc pc .eq tgt pc') (KT : a = b → bg_W G own cc mL rt R T Qf u v tgt L st M) (KF : ¬ (a = b) → bg_W G own cc mL rt R T Qf u v pc' L st M) (ha : -2147483648 ≤ a ∧ a < 2147483648 := by omega) (hb : -2147483648 ≤ b ∧ b < 2147483648 := by omega) : bg_W G own cc mL rt R T Qf u v pc L (vI b :: vI a :: st) M := by
  intro p e s m args below meth c H locs ls C hl hH hS
  obtain ⟨⟨off, hd, ht⟩, rfl⟩ := hd
  exact lv_icmp_eq C.1 C.2.1 hd ht (fun h => KT ((bc_eq ha hb).mp h) p e s m args below meth c H locs ls C hl hH hS) (fun h => KF (fun q => h ((bc_eq ha hb).mpr q)) p e s m args below meth c H locs ls C hl hH hS)
theorem wg_icmp_gt {a b : Int} {tgt : Nat} (hd : bc_dc cc pc .gt tgt pc') (KT : b < a → bg_W G own cc mL rt R T Qf u v tgt L st M) (KF : ¬ (b < a) → bg_W G own cc mL rt R T Qf u v pc' L st M) (ha : -2147483648 ≤ a ∧ a < 2147483648 := by omega) (hb : -2147483648 ≤ b ∧ b < 2147483648 := by omega) : bg_W G own cc mL rt R T Qf u v pc L (vI b :: vI a :: st) M := by
  intro p e s m args below meth c H locs ls C hl hH hS
  obtain ⟨⟨off, hd, ht⟩, rfl⟩ := hd
  exact lv_icmp_gt C.1 C.2.1 hd ht (fun h => KT ((bc_lt hb ha).mp h) p e s m args below meth c H locs ls C hl hH hS) (fun h => KF (fun q => h ((bc_lt hb ha).mpr q)) p e s m args below meth c H locs ls C hl hH hS)
theorem wg_if_eq {a : Int} {tgt : Nat} (hd : bc_dz cc pc .eq tgt pc') (KT : a = 0 → bg_W G own cc mL rt R T Qf u v tgt L st M) (KF : ¬ (a = 0) → bg_W G own cc mL rt R T Qf u v pc' L st M) (ha : -2147483648 ≤ a ∧ a < 2147483648 := by omega) : bg_W G own cc mL rt R T Qf u v pc L (vI a :: st) M := by
  intro p e s m args below meth c H locs ls C hl hH hS
  obtain ⟨⟨off, hd, ht⟩, rfl⟩ := hd
  have hb : -2147483648 ≤ (0 : Int) ∧ (0 : Int) < 2147483648 := by omega
  exact lv_if_eq C.1 C.2.1 hd ht (fun h => KT ((bc_eq ha hb).mp h) p e s m args below meth c H locs ls C hl hH hS) (fun h => KF (fun q => h ((bc_eq ha hb).mpr q)) p e s m args below meth c H locs ls C hl hH hS)
theorem wg_if_ne {a : Int} {tgt : Nat} (hd : bc_dz cc pc .ne tgt pc') (KT : a ≠ 0 → bg_W G own cc mL rt R T Qf u v tgt L st M) (KF : ¬ (a ≠ 0) → bg_W G own cc mL rt R T Qf u v pc' L st M) (ha : -2147483648 ≤ a ∧ a < 2147483648 := by omega) : bg_W G own cc mL rt R T Qf u v pc L (vI a :: st) M := by
  intro p e s m args below meth c H locs ls C hl hH hS
  obtain ⟨⟨off, hd, ht⟩, rfl⟩ := hd
  have hb : -2147483648 ≤ (0 : Int) ∧ (0 : Int) < 2147483648 := by omega
  exact lv_if_ne C.1 C.2.1 hd ht (fun h => KT (fun q => h ((bc_eq ha hb).mpr q)) p e s m args below meth c H locs ls C hl hH hS) (fun h => KF (fun q => q ((bc_eq ha hb).mp h)) p e s m args below meth c H locs ls C hl hH hS)
theorem wg_goto {tgt : Nat} (hd : bc_dg cc pc tgt) (K : bg_W G own cc mL rt R T Qf u v tgt L st M) : bg_W G own cc mL rt R T Qf u v pc L st M := by
  intro p e s m args below meth c H locs ls C hl hH hS
  obtain ⟨off, hd, ht⟩ := hd
  exact lv_goto C.1 C.2.1 hd ht (K p e s m args below meth c H locs ls C hl hH hS)
theorem wg_lstore {i : Nat} {x : Int} {L2 : List (Option Value)} (hd : bc_d cc pc (.lstore i) 2 pc') (hL : (L.set i (some (vJ x))).set (i + 1) none = L2) (K : bg_W G own cc mL rt R T Qf u v pc' L2 st M) (hp : bc_pre L i = true := by rfl) (hi : i + 1 < mL := by decide) : bg_W G own cc mL rt R T Qf u v pc L (vJ x :: st) M := by
  intro p e s m args below meth c H locs ls C hl hH hS
  obtain ⟨hd, rfl⟩ := hd
  subst hL
  refine lv_lstore C.1 C.2.1 hd hl hi rfl (fun ls hl => ?_)
  exact K p e s m args below meth c H locs ls C (bc_put2 hp hl) hH hS
theorem wg_dstore {i : Nat} {x : UInt64} {L2 : List (Option Value)} (hd : bc_d cc pc (.dstore i) 2 pc') (hL : (L.set i (some (.double x))).set (i + 1) none = L2) (K : bg_W G own cc mL rt R T Qf u v pc' L2 st M) (hp : bc_pre L i = true := by rfl) (hi : i + 1 < mL := by decide) : bg_W G own cc mL rt R T Qf u v pc L (.double x :: st) M := by
  intro p e s m args below meth c H locs ls C hl hH hS
  obtain ⟨hd, rfl⟩ := hd
  subst hL
  refine lv_dstore C.1 C.2.1 hd hl hi rfl (fun ls hl => ?_)
  exact K p e s m args below meth c H locs ls C (bc_put2 hp hl) hH hS
theorem wg_tableIn {x dflt lo hi off : Int} {offs : Array Int} {len tgt : Nat} (hd : bc_d cc pc (.tableswitch dflt lo hi offs) len pc') (h1 : ¬ (Int32.ofInt x).toInt < lo) (h2 : ¬ hi < (Int32.ofInt x).toInt) (ho : offs[((Int32.ofInt x).toInt - lo).toNat]? = some off) (ht : (pc : Int) + off = (tgt : Int)) (K : bg_W G own cc mL rt R T Qf u v tgt L st M) : bg_W G own cc mL rt R T Qf u v pc L (vI x :: st) M := by
  intro p e s m args below meth c H locs ls C hl hH hS
  exact lv_tableIn C.1 C.2.1 hd.1 h1 h2 ho ht (K p e s m args below meth c H locs ls C hl hH hS)
theorem wg_tableOut {x dflt lo hi : Int} {offs : Array Int} {len tgt : Nat} (hd : bc_d cc pc (.tableswitch dflt lo hi offs) len pc') (h : (Int32.ofInt x).toInt < lo ∨ hi < (Int32.ofInt x).toInt) (ht : (pc : Int) + dflt = (tgt : Int)) (K : bg_W G own cc mL rt R T Qf u v tgt L st M) : bg_W G own cc mL rt R T Qf u v pc L (vI x :: st) M := by
  intro p e s m args below meth c H locs ls C hl hH hS
  exact lv_tableOut C.1 C.2.1 hd.1 h ht (K p e s m args below meth c H locs ls C hl hH hS)
theorem bg_lald {k n : Nat} {j i : Int} (hd : bc_d cc pc .laload 1 pc') (he : ∀ g : Int → Int, bc_e G k j g = .inl (bc_ty G 2, n, .inr (.inl (fun q => Int64.ofInt (g (q : Int)))))) (hn : (n : Int) < 2147483648) (hj : 0 ≤ j ∧ j < bc_n k) (hi : 0 ≤ i ∧ i < (n : Int)) (K : bg_W G own cc mL rt R T Qf u v pc' L (vJ (M k j i) :: st) M) : bg_W G own cc mL rt R T Qf u v pc L (vI i :: vR G k j :: st) M := by
  intro p e s m args below meth c H locs ls C hl hH hS
  obtain ⟨hd, rfl⟩ := hd
  have ha := hH.2 k j hj.1 hj.2
  rw [he] at ha
  refine va_lald C.1 C.2.1 C.2.2.2.2.2.2.2.2.1.1 (bc_one ha) 0 2 rfl (bc_tyAt C.2.2.2.2.2.2.2.2.2.1 2 rfl) (bc_in hi hn) hd ?_
  rw [bc_clamp hi.1 (by omega), Int.toNat_of_nonneg hi.1]
  exact K p e s m args below meth c H locs ls C hl hH hS
theorem bg_last {k n : Nat} {j i x : Int} (hd : bc_d cc pc .lastore 1 pc') (he : ∀ g : Int → Int, bc_e G k j g = .inl (bc_ty G 2, n, .inr (.inl (fun q => Int64.ofInt (g (q : Int)))))) (hn : (n : Int) < 2147483648) (hj : 0 ≤ j ∧ j < bc_n k) (hi : 0 ≤ i ∧ i < (n : Int)) (K : bg_W G own cc mL rt R T Qf u v pc' L st (bc_up M k j i x)) : bg_W G own cc mL rt R T Qf u v pc L (vJ x :: vI i :: vR G k j :: st) M := by
  intro p e s m args below meth c H locs ls C hl hH hS
  obtain ⟨hd, rfl⟩ := hd
  have hok := C.2.2.2.2.2.2.2.2.2.1
  have ha := hH.2 k j hj.1 hj.2
  rw [he] at ha
  refine W.last C.1 C.2.1 ha ((C.2.2.2.2.2.2.2.2.1.1.2 2 _ (bc_tyAt hok 2 rfl)).1 n (fun q => .long (Int64.ofInt (M k j (q : Int))))) (fun q => by cases q) (by show ¬ (_ ∨ (arrV _ _ _).slots.size ≤ _); rw [arrV_size]; exact bc_in hi hn) rfl rfl hd fun H1 e z oq => ?_
  refine K p _ s m args below meth c H1 _ ls C hl (bc_H_put hok hH hj z oq ?_) (hS.put z oq (hok.2.2.1 k j hj.1 hj.2))
  rw [he]
  show H1[_]? = some (vp_cell _ _)
  rw [e, bc_clamp hi.1 (by omega)]
  rw [vp_cell_l, vp_cell_l, arrV_store]
  congr 2
  funext q
  by_cases hq : q = i.toNat
  · subst hq
    simp [updV, bc_u, Int.toNat_of_nonneg hi.1]
  · have : ¬ (q : Int) = i := by omega
    simp [updV, bc_u, hq, this]
theorem wg_astore_x {i : Nat} {q : Nat} {L2 : List (Option Value)} (hd : bc_d cc pc (.astore i) 2 pc') (hL : L.set i (some (.ref q)) = L2) (K : bg_W G own cc mL rt R T Qf u v pc' L2 st M) (hp : bc_pre L i = true := by rfl) (hi : i < mL := by decide) : bg_W G own cc mL rt R T Qf u v pc L (.ref q :: st) M := by
  intro p e s m args below meth c H locs ls C hl hH hS
  obtain ⟨hd, rfl⟩ := hd
  subst hL
  refine lv_astore C.1 C.2.1 hd hl hi rfl (fun ls hl => ?_)
  exact K p e s m args below meth c H locs ls C (bc_put1 hp hl) hH hS
theorem wg_astore_nx {i : Fin 4} {q : Nat} {L2 : List (Option Value)} (hd : bc_d cc pc (.astore_n i) 1 pc') (hL : L.set (i : Nat) (some (.ref q)) = L2) (K : bg_W G own cc mL rt R T Qf u v pc' L2 st M) (hp : bc_pre L (i : Nat) = true := by rfl) (hi : (i : Nat) < mL := by decide) : bg_W G own cc mL rt R T Qf u v pc L (.ref q :: st) M := by
  intro p e s m args below meth c H locs ls C hl hH hS
  obtain ⟨hd, rfl⟩ := hd
  subst hL
  refine lv_astore_n C.1 C.2.1 hd rfl hl hi rfl (fun ls hl => ?_)
  exact K p e s m args below meth c H locs ls C (bc_put1 hp hl) hH hS
theorem wg_i2l {a : Int} (hd : bc_d cc pc .i2l 1 pc') (K : bg_W G own cc mL rt R T Qf u v pc' L (vJ (w32 a) :: st) M) : bg_W G own cc mL rt R T Qf u v pc L (vI a :: st) M := by
  intro p e s m args below meth c H locs ls C hl hH hS
  obtain ⟨hd, rfl⟩ := hd
  refine lv_i2l (v := Int64.ofInt (w32 a)) C.1 C.2.1 hd ?_ (K p e s m args below meth c H locs ls C hl hH hS)
  apply bc_ofL
  rw [Int32.toInt_toInt64]
  rfl
theorem wg_lcmp_same {a : Int} (hd : bc_d cc pc .lcmp 1 pc') (K : bg_W G own cc mL rt R T Qf u v pc' L (vI 0 :: st) M) : bg_W G own cc mL rt R T Qf u v pc L (vJ a :: vJ a :: st) M := by
  intro p e s m args below meth c H locs ls C hl hH hS
  obtain ⟨hd, rfl⟩ := hd
  refine W.lcmp C.1 C.2.1 hd ?_
  have h : lg_cmp (Int64.ofInt a) (Int64.ofInt a) = Int32.ofInt 0 := by
    unfold lg_cmp
    rw [if_neg (fun h => Int64.lt_irrefl h), if_pos rfl]
    rfl
  rw [h]
  exact K p e s m args below meth c H locs ls C hl hH hS
theorem wg_icmp_same {a : Int} {tgt : Nat} (hd : bc_dc cc pc .eq tgt pc') (K : bg_W G own cc mL rt R T Qf u v tgt L st M) : bg_W G own cc mL rt R T Qf u v pc L (vI a :: vI a :: st) M := by
  intro p e s m args below meth c H locs ls C hl hH hS
  obtain ⟨⟨off, hd, ht⟩, rfl⟩ := hd
  exact lv_icmp_eq C.1 C.2.1 hd ht (fun _ => K p e s m args below meth c H locs ls C hl hH hS) (fun h => absurd rfl h)
theorem wg_dcmp {x y : UInt64} (hd : bc_d cc pc (.dcmp .l) 1 pc') (K : bg_W G own cc mL rt R T Qf u v pc' L (.int (Op.cmpValue (FP.dcmp x y) CmpOp.l) :: st) M) : bg_W G own cc mL rt R T Qf u v pc L (.double y :: .double x :: st) M := by
  intro p e s m args below meth c H locs ls C hl hH hS
  obtain ⟨hd, rfl⟩ := hd
  exact lv_dcmp C.1 C.2.1 hd (K p e s m args below meth c H locs ls C hl hH hS)
theorem wg_zeq {a : Int32} {tgt : Nat} (hd : bc_dz cc pc .eq tgt pc') (KT : a = 0 → bg_W G own cc mL rt R T Qf u v tgt L st M) (KF : ¬ a = 0 → bg_W G own cc mL rt R T Qf u v pc' L st M) : bg_W G own cc mL rt R T Qf u v pc L (.int a :: st) M := by
  intro p e s m args below meth c H locs ls C hl hH hS
  obtain ⟨⟨off, hd, ht⟩, rfl⟩ := hd
  exact lv_if_eq C.1 C.2.1 hd ht (fun h => KT h p e s m args below meth c H locs ls C hl hH hS) (fun h => KF h p e s m args below meth c H locs ls C hl hH hS)
theorem wg_zne {a : Int32} {tgt : Nat} (hd : bc_dz cc pc .ne tgt pc') (KT : ¬ a = 0 → bg_W G own cc mL rt R T Qf u v tgt L st M) (KF : a = 0 → bg_W G own cc mL rt R T Qf u v pc' L st M) : bg_W G own cc mL rt R T Qf u v pc L (.int a :: st) M := by
  intro p e s m args below meth c H locs ls C hl hH hS
  obtain ⟨⟨off, hd, ht⟩, rfl⟩ := hd
  exact lv_if_ne C.1 C.2.1 hd ht (fun h => KT h p e s m args below meth c H locs ls C hl hH hS) (fun h => KF h p e s m args below meth c H locs ls C hl hH hS)
theorem bg_dald {k n : Nat} {j i : Int} (hd : bc_d cc pc .daload 1 pc') (he : ∀ g : Int → Int, bc_e G k j g = .inl (bc_ty G 3, n, .inr (.inr (.inr (.inl (fun q => UInt64.ofNat (g (q : Int)).toNat)))))) (hn : (n : Int) < 2147483648) (hj : 0 ≤ j ∧ j < bc_n k) (hi : 0 ≤ i ∧ i < (n : Int)) (K : bg_W G own cc mL rt R T Qf u v pc' L (.double (UInt64.ofNat (M k j i).toNat) :: st) M) : bg_W G own cc mL rt R T Qf u v pc L (vI i :: vR G k j :: st) M := by
  intro p e s m args below meth c H locs ls C hl hH hS
  obtain ⟨hd, rfl⟩ := hd
  have hok := C.2.2.2.2.2.2.2.2.2.1
  have ha := hH.2 k j hj.1 hj.2
  rw [he] at ha
  have hlt : i.toNat < n := by omega
  refine W.dald (v := .double (UInt64.ofNat (M k j i).toNat)) C.1 C.2.1 ha ((C.2.2.2.2.2.2.2.2.1.1.2 3 _ (bc_tyAt hok 3 rfl)).1 n (fun q => .double (UInt64.ofNat (M k j (q : Int)).toNat))) (fun q => by cases q) (by show ¬ (_ ∨ (arrV _ _ _).slots.size ≤ _); rw [arrV_size]; exact bc_in hi hn) (by show (arrV _ _ _).slots[_]? = _; rw [bc_clamp hi.1 (by omega), arrV_read _ _ hlt]; show some (Value.double (UInt64.ofNat (M k j (i.toNat : Int)).toNat)) = _; rw [Int.toNat_of_nonneg hi.1]) rfl rfl hd ?_
  exact K p e s m args below meth c H locs ls C hl hH hS
theorem bg_dast {k n : Nat} {j i : Int} {x : UInt64} (hd : bc_d cc pc .dastore 1 pc') (he : ∀ g : Int → Int, bc_e G k j g = .inl (bc_ty G 3, n, .inr (.inr (.inr (.inl (fun q => UInt64.ofNat (g (q : Int)).toNat)))))) (hn : (n : Int) < 2147483648) (hj : 0 ≤ j ∧ j < bc_n k) (hi : 0 ≤ i ∧ i < (n : Int)) (K : bg_W G own cc mL rt R T Qf u v pc' L st (bc_up M k j i (x.toNat : Int))) : bg_W G own cc mL rt R T Qf u v pc L (.double x :: vI i :: vR G k j :: st) M := by
  intro p e s m args below meth c H locs ls C hl hH hS
  obtain ⟨hd, rfl⟩ := hd
  have hok := C.2.2.2.2.2.2.2.2.2.1
  have ha := hH.2 k j hj.1 hj.2
  rw [he] at ha
  refine W.dast C.1 C.2.1 ha ((C.2.2.2.2.2.2.2.2.1.1.2 3 _ (bc_tyAt hok 3 rfl)).1 n (fun q => .double (UInt64.ofNat (M k j (q : Int)).toNat))) (fun q => by cases q) (by show ¬ (_ ∨ (arrV _ _ _).slots.size ≤ _); rw [arrV_size]; exact bc_in hi hn) rfl rfl hd fun H1 e z oq => ?_
  refine K p _ s m args below meth c H1 _ ls C hl (bc_H_put hok hH hj z oq ?_) (hS.put z oq (hok.2.2.1 k j hj.1 hj.2))
  rw [he]
  show H1[_]? = some (vp_cell _ _)
  rw [e, bc_clamp hi.1 (by omega)]
  rw [vp_cell_d, vp_cell_d, arrV_store]
  congr 2
  funext q
  by_cases hq : q = i.toNat
  · subst hq
    simp [updV, bc_u, Int.toNat_of_nonneg hi.1]
  · have : ¬ (q : Int) = i := by omega
    simp [updV, bc_u, hq, this]
theorem wg_widen {k n : Nat} (h1 : u ≤ k) (h2 : v ≤ n) (K : bg_W G own cc mL rt R T Qf k n pc L st M) : bg_W G own cc mL rt R T Qf u v pc L st M := by
  intro p e s m args below meth c H locs ls C hl hH hS
  exact W.widen h1 h2 (K p e s m args below meth c H locs ls C hl hH hS)
/-- behind a call: its answer on the stack, or what its exception makes -/
def bg_k (G : bc_G) (own : String) (cc : ByteArray) (mL : Nat) (rt : Option FieldType) (R : Room) (T : bg_T) (Qf : bg_E) (u v : Nat) (pc : Nat) (L : List (Option Value)) (st : List Value) (X : String → bc_M → Prop) : bc_R → bc_M → Prop := fun r M' => match r with
  | .inl E => X E M'
  | .inr none => bg_W G own cc mL rt R T Qf u v pc L st M'
  | .inr (some w) => bg_W G own cc mL rt R T Qf u v pc L (w :: st) M'
theorem bg_ran {p : Program} {e : Env} {s : State} {m : MethodId} {args : Array Value} {below : List Frame} {meth : Method} {c : Code} {H : Heap} {locs : List Loc} {ls : Array Slot} {N' : Nat} {st0 : List Value} {a : Array Value} {X : String → bc_M → Prop}
    (C : bg_C G own cc mL rt T p s m args meth c) (hl : lv_has ls mL (bc_prs 0 L)) (hS : va_S (bc_A G) s.heap H locs)
    (hx : ∀ (E : String) (M' : bc_M) (H' : Heap) (locs' : List Loc) (q : Nat) (ce : Cell), X E M' → bc_H G M' H' → va_S (bc_A G) s.heap H' locs' → H'[q]? = some ce → ce.vm = .none → s.vm.findClass E = some ce.cls → vx_W p G.1 e R s m args below meth c H' locs' (u + N') (v + 8 * N') (Qf below args s) (F0 m pc ls st) q)
    (hr : vx_Run p G.1 e R s m args below meth c H locs u v N' (8 * N') (F0 m pc ls st0) st (bc_Q G (bg_k G own cc mL rt R T Qf (u + N') (v + 8 * N') (pc + 3) L st X) a) (bc_X G (bg_k G own cc mL rt R T Qf (u + N') (v + 8 * N') (pc + 3) L st X)) (bc_A G)) :
    W p G.1 e R s m args below meth c H locs u v (Qf below args s) (F0 m pc ls st0) := by
  intro T9 hT X9
  rcases hr T9 hT X9 with ⟨w, st₀, t, T', L1, h0, X', hL1, e1, e2, ⟨⟨w', M', hv, hp, hH'⟩, hF⟩, stp⟩ | ⟨q, st₀, t, T', L1, E, ce, h0, X', hL1, e1, e2, ⟨⟨M', hp, hH'⟩, hF⟩, hce, hcv, hcl, stp⟩
  · cases hv
    obtain ⟨k1, k2, k3⟩ := vx_keep h0 e1 hS (fun q _ h => h) (fun q h => h) hL1 hF
    have hH1 : bc_H G M' T'.heap := by rw [e1]; exact hH'
    cases w with
    | none =>
      obtain ⟨t2, a1, b1⟩ := hp p e s m args below meth c T'.heap (locs ++ L1) ls C hl hH1 k3 T' rfl X'
      exact ⟨t2, stp t2 a1, b1⟩
    | some w =>
      obtain ⟨t2, a1, b1⟩ := hp p e s m args below meth c T'.heap (locs ++ L1) ls C hl hH1 k3 T' rfl X'
      exact ⟨t2, stp t2 a1, b1⟩
  · obtain ⟨k1, k2, k3⟩ := vx_keep h0 e1 hS (fun q _ h => h) (fun q h => h) hL1 hF
    have hH1 : bc_H G M' T'.heap := by rw [e1]; exact hH'
    obtain ⟨t2, a1, b1⟩ := hx E M' T'.heap (locs ++ L1) q ce hp hH1 k3 (by rw [e1]; exact hce) hcv hcl T' rfl X'
    exact ⟨t2, stp.trans a1, b1⟩
/-- what an exception finds in the table: the first row that names its class -/
def bg_H (own : String) (pc : Nat) (hh : List (Nat × Nat × Nat × Nat)) (E : String) (tgt : Nat) : Prop := ∃ pre x suf, hh = pre ++ x :: suf ∧ (∀ z ∈ pre, z.2.2.2 ≠ 0 ∧ ∃ nm, Cond.classLink own z.2.2.2 nm ∈ bc_wd ∧ (E, nm) ∈ bc_nc) ∧ (covers ⟨x.1, x.2.1, x.2.2.1, x.2.2.2⟩ pc = true ∧ x.2.2.2 ≠ 0 ∧ Cond.classLink own x.2.2.2 E ∈ bc_wd ∧ E ∈ bc_casts) ∧ x.2.2.1 = tgt
def bg_tab (hh : List (Nat × Nat × Nat × Nat)) : bg_T := fun _ _ _ _ _ c => c.exceptionTable.toList = tableOf hh
theorem bg_callVH {k ci Nn : Nat} {j : Int} {idx d' N' n : Nat} {y : MethodName} {yc : ByteArray} {yL : Nat} {yr : Option FieldType} {Cn : String} {T0 : u_T} {fs : List Value} {As : List Value} {hh : List (Nat × Nat × Nat × Nat)} (hd : bc_d cc pc (.invokevirtual idx) 3 pc') (w1 : Cond.methodLink own idx y ∈ bc_wd) (w2 : Cond.instanceMethod y ∈ bc_wd) (w3 : Cond.selects Cn y y ∈ bc_wd) (w4 : Cond.initialized Cn ∈ bc_wd) (w5 : Cond.code y yc yL yr ∈ bc_wd)
    (hy : y.cls = Cn ∧ y.cls ≠ "java/lang/invoke/MethodHandle" ∧ y.cls ≠ "java/lang/invoke/VarHandle" ∧ (parseMethodDescriptor y.desc).map (fun d => d.parameters.length) = some n) (hc : bc_cl[ci]? = some (Cn, T0, Nn)) (he : bc_e G k j (M k j) = .inr (ci, fs)) (hj : 0 ≤ j ∧ j < bc_n k) (hn : As.length = n) (hyL : yL ≤ 45) (hdd : d' + 1 ≤ R.frames ∧ 64 + 64 * d' ≤ R.locals) (hN : u + N' ≤ R.cells ∧ v + 8 * N' ≤ R.slots) (hst : Nat.ble ((st.map fun v => v.category).sum) 8 = true)
    (h : bc_Call G y yc yL yr d' N' (vR G k j :: As) M (bg_k G own cc mL rt R (bg_tab hh) Qf (u + N') (v + 8 * N') pc' L st (fun E M' => ∃ tgt, bg_H own pc hh E tgt ∧ ∀ q : Nat, bg_W G own cc mL rt R (bg_tab hh) Qf (u + N') (v + 8 * N') tgt L [.ref q] M'))) : bg_W G own cc mL rt R (bg_tab hh) Qf u v pc L (As.reverse ++ vR G k j :: st) M := by
  intro p e s m args below meth c H locs ls C hl hH hS
  obtain ⟨hd, rfl⟩ := hd
  have hts := C.2.2.2.2.2.1
  have hSS := C.2.2.2.2.2.2.2.2.1
  have ha := hH.2 k j hj.1 hj.2
  rw [he] at ha
  have hG : GoodIn bc_wd (wsV own idx Cn y (Cond.code y yc yL yr :: bc_wd)) := by
    unfold wsV
    intro w hw
    rcases List.mem_append.mp hw with hw | hw
    · have : w ∈ bc_wd := by
        simp only [List.mem_cons, List.not_mem_nil, or_false] at hw
        rcases hw with rfl | rfl | rfl | rfl
        · exact w1
        · exact w2
        · exact w3
        · exact w4
      exact ⟨this, bc_isgood this⟩
    · exact bc_goodIn w5 w hw
  refine bg_ran C hl hS ?_ (vx_runV (As := As) (rest := st) (n := n) (rm := bc_rm d' N') ⟨C.1, C.2.1, C.2.2.2.1, C.2.2.2.2.1, hts⟩ (h C.2.2.2.2.2.2.2.2.2.1) (cwV n hts hG rfl rfl rfl hy ⟨hdd.1, by show 8 + (yL + 11) + 64 * d' ≤ R.locals; omega⟩) ⟨bc_blind, va_recv hSS.1 (bc_one ha) (q0 := 0) hc rfl, fun U hU hW => ⟨rfl, by rw [hU]; exact hH, hSS.warm hW⟩⟩ rfl hn hl.1 rfl (lv_room (Nat.le_of_ble_eq_true hst)) hd hN)
  intro E M' H' locs' q ce ⟨tgt, ⟨pre, x, suf, hsp, hpre, ⟨hcov, h0, hlk, hcs⟩, hx⟩, hK⟩ hH' hS' hce hcv hcl
  subst hx
  refine vx_catch (own := own) (name := E) C.2.2.2.2.1 (tableOf pre) ⟨x.1, x.2.1, x.2.2.1, x.2.2.2⟩ (tableOf suf) (by rw [C.2.2.2.2.2.2.2.1, hsp]; simp [tableOf]) (fun z hz => ?_) hcov h0 (hts _ hlk) (va_Nw.use rfl (hSS.2.2.2.2.1 E hcs)) hce hcv hcl (hK q p e s m args below meth c H' locs' ls C hl hH' hS')
  obtain ⟨z0, hz0, rfl⟩ := List.mem_map.mp hz
  obtain ⟨g0, nm, g1, g2⟩ := hpre z0 hz0
  exact Or.inr ⟨g0, nm, hts _ g1, hSS.2.2.2.2.2.1 _ g2⟩
/-- a call of a method that doesn't throw here -/
theorem bg_callV {k ci Nn : Nat} {j : Int} {idx d' N' n : Nat} {y : MethodName} {yc : ByteArray} {yL : Nat} {yr : Option FieldType} {Cn : String} {T0 : u_T} {fs : List Value} {As : List Value} (hd : bc_d cc pc (.invokevirtual idx) 3 pc') (w1 : Cond.methodLink own idx y ∈ bc_wd) (w2 : Cond.instanceMethod y ∈ bc_wd) (w3 : Cond.selects Cn y y ∈ bc_wd) (w4 : Cond.initialized Cn ∈ bc_wd) (w5 : Cond.code y yc yL yr ∈ bc_wd)
    (hy : y.cls = Cn ∧ y.cls ≠ "java/lang/invoke/MethodHandle" ∧ y.cls ≠ "java/lang/invoke/VarHandle" ∧ (parseMethodDescriptor y.desc).map (fun d => d.parameters.length) = some n) (hc : bc_cl[ci]? = some (Cn, T0, Nn)) (he : bc_e G k j (M k j) = .inr (ci, fs)) (hj : 0 ≤ j ∧ j < bc_n k) (hn : As.length = n) (hyL : yL ≤ 45) (hdd : d' + 1 ≤ R.frames ∧ 64 + 64 * d' ≤ R.locals) (hN : u + N' ≤ R.cells ∧ v + 8 * N' ≤ R.slots) (hst : Nat.ble ((st.map fun v => v.category).sum) 8 = true)
    (h : bc_Call G y yc yL yr d' N' (vR G k j :: As) M (bg_k G own cc mL rt R T Qf (u + N') (v + 8 * N') pc' L st (fun _ _ => False))) : bg_W G own cc mL rt R T Qf u v pc L (As.reverse ++ vR G k j :: st) M := by
  intro p e s m args below meth c H locs ls C hl hH hS
  obtain ⟨hd, rfl⟩ := hd
  have hts := C.2.2.2.2.2.1
  have hSS := C.2.2.2.2.2.2.2.2.1
  have ha := hH.2 k j hj.1 hj.2
  rw [he] at ha
  have hG : GoodIn bc_wd (wsV own idx Cn y (Cond.code y yc yL yr :: bc_wd)) := by
    unfold wsV
    intro w hw
    rcases List.mem_append.mp hw with hw | hw
    · have : w ∈ bc_wd := by
        simp only [List.mem_cons, List.not_mem_nil, or_false] at hw
        rcases hw with rfl | rfl | rfl | rfl
        · exact w1
        · exact w2
        · exact w3
        · exact w4
      exact ⟨this, bc_isgood this⟩
    · exact bc_goodIn w5 w hw
  exact bg_ran C hl hS (fun _ _ _ _ _ _ h => h.elim) (vx_runV (As := As) (rest := st) (n := n) (rm := bc_rm d' N') ⟨C.1, C.2.1, C.2.2.2.1, C.2.2.2.2.1, hts⟩ (h C.2.2.2.2.2.2.2.2.2.1) (cwV n hts hG rfl rfl rfl hy ⟨hdd.1, by show 8 + (yL + 11) + 64 * d' ≤ R.locals; omega⟩) ⟨bc_blind, va_recv hSS.1 (bc_one ha) (q0 := 0) hc rfl, fun U hU hW => ⟨rfl, by rw [hU]; exact hH, hSS.warm hW⟩⟩ rfl hn hl.1 rfl (lv_room (Nat.le_of_ble_eq_true hst)) hd hN)
/-- the contract of a method with a table -/
def bh_Call (G : bc_G) (y : MethodName) (yc : ByteArray) (yL : Nat) (yr : Option FieldType) (hh : List (Nat × Nat × Nat × Nat)) (d N : Nat) (as : List Value) (M : bc_M) (post : bc_R → bc_M → Prop) : Prop :=
  bc_ok G → vx_Met G.1 y (Cond.codeWith y yc yL yr hh :: bc_wd) (bc_rm d N) (va_Pc as (fun U => bc_H G M U.heap ∧ bc_S G U)) (bc_Q G post) (bc_X G post) N (8 * N) (bc_A G)
def bg_N (G : bc_G) (N : Nat) (post : bc_R → bc_M → Prop) : bg_E := fun below args s => vx_MQ below (bc_Q G post) (bc_X G post) args s N (8 * N) (bc_A G)
theorem bh_enter {y : MethodName} {yc : ByteArray} {yL : Nat} {yr : Option FieldType} {hh : List (Nat × Nat × Nat × Nat)} {d N : Nat} {as : List Value} {post : bc_R → bc_M → Prop} (hy : plainName y.cls = true) (hL : bc_prs 0 L = lv_args 0 as) (hlen : Nat.ble (lg_sl as).length yL = true) (K : bg_W G y.cls yc yL yr (bc_rm d N) (bg_tab hh) (bg_N G N post) 0 0 0 L [] M) : bh_Call G y yc yL yr hh d N as M post := by
  intro ok
  refine vx_ofWH (cc := yc) (maxL := yL) (ret := yr) (hh := hh) hy rfl ?_
  intro p e s m args below meth c s₁ B hml hv
  obtain ⟨rfl, hH, hSS⟩ := hv
  have hl := lv_entry as (n := yL) (Nat.le_of_ble_eq_true hlen)
  rw [lg_entry_eq]
  have hts := atoms_spec (ws := Cond.codeWith y yc yL yr hh :: bc_wd) B.pre
  exact K p e s m _ below meth c s.heap [] _ ⟨B.exec, B.bytes, B.returns, hml, findClass_of_methodNamed B.named, fun w hw => hts w (List.mem_cons_of_mem _ hw), B.notSynchronized, vx_table (x := y) B (hts _ List.mem_cons_self), hSS, ok, hH.1⟩ (by rw [hL]; exact hl) hH va_S.rf
theorem wg_ireturn {a : Int} {N : Nat} {post : bc_R → bc_M → Prop} (hd : bc_d cc pc .ireturn 1 pc') (K : post (.inr (some (vI a))) M) (hu : u ≤ N := by decide) (hv : v ≤ 8 * N := by decide) : bg_W G own cc mL (some .int) R T (bg_N G N post) u v pc L [vI a] M := by
  intro p e s m args below meth c H locs ls C hl hH hS
  obtain ⟨hd, -⟩ := hd
  refine W.widen (k := N) (n := 8 * N) hu hv ?_
  refine vx_ret ?_
  exact W.iret C.1 C.2.1 C.2.2.1 (fun t ht hW => ⟨⟨_, M, rfl, K, by rw [ht]; exact hH⟩, hS.F ht⟩) (fun q hq => hS.2.2 q hq) hd C.2.2.2.2.2.2.1
/-- a static call of a method with a table that doesn't throw -/
theorem bg_callSH {idx d' N' n : Nat} {y : MethodName} {yc : ByteArray} {yL : Nat} {yr : Option FieldType} {hh : List (Nat × Nat × Nat × Nat)} {As : List Value} (hd : bc_d cc pc (.invokestatic idx) 3 pc') (w1 : Cond.methodLink own idx y ∈ bc_wd) (w2 : Cond.static y ∈ bc_wd) (w4 : Cond.initialized y.cls ∈ bc_wd) (w5 : Cond.codeWith y yc yL yr hh ∈ bc_wd)
    (hy : y.cls ≠ "java/lang/invoke/MethodHandle" ∧ y.cls ≠ "java/lang/invoke/VarHandle" ∧ (parseMethodDescriptor y.desc).map (fun d => d.parameters.length) = some n) (hn : As.length = n) (hyL : yL ≤ 45) (hdd : d' + 1 ≤ R.frames ∧ 64 + 64 * d' ≤ R.locals) (hN : u + N' ≤ R.cells ∧ v + 8 * N' ≤ R.slots) (hst : Nat.ble ((st.map fun v => v.category).sum) 8 = true)
    (h : bh_Call G y yc yL yr hh d' N' As M (bg_k G own cc mL rt R T Qf (u + N') (v + 8 * N') pc' L st (fun _ _ => False))) : bg_W G own cc mL rt R T Qf u v pc L (As.reverse ++ st) M := by
  intro p e s m args below meth c H locs ls C hl hH hS
  obtain ⟨hd, rfl⟩ := hd
  have hts := C.2.2.2.2.2.1
  have hSS := C.2.2.2.2.2.2.2.2.1
  have hG : GoodIn bc_wd (va_wsS own idx y (Cond.codeWith y yc yL yr hh :: bc_wd)) := by
    unfold va_wsS
    intro w hw
    rcases List.mem_append.mp hw with hw | hw
    · have : w ∈ bc_wd := by
        simp only [List.mem_cons, List.not_mem_nil, or_false] at hw
        rcases hw with rfl | rfl | rfl
        · exact w1
        · exact w2
        · exact w4
      exact ⟨this, bc_isgood this⟩
    · exact bc_goodIn w5 w hw
  exact bg_ran C hl hS (fun _ _ _ _ _ _ h => h.elim) (vx_runSX (As := As) (rest := st) (n := n) (rm := bc_rm d' N') ⟨C.1, C.2.1, C.2.2.2.1, C.2.2.2.2.1, hts⟩ (h C.2.2.2.2.2.2.2.2.2.1) (vx_cwSW n hts hG rfl rfl rfl hy ⟨hdd.1, by show 8 + (yL + 11) + 64 * d' ≤ R.locals; omega⟩) ⟨bc_blind, fun U hU hW => ⟨rfl, by rw [hU]; exact hH, hSS.warm hW⟩⟩ rfl hn hl.1 rfl (lv_room (Nat.le_of_ble_eq_true hst)) hd hN)
end GROWS
