/-! THE JUDGEMENT -/
def bc_H (G : bc_G) (M : bc_M) (H : Heap) : Prop := bc_O G H ∧ ∀ (k : Nat) (j : Int), 0 ≤ j → j < bc_n k → va_at G.2.1 bc_cl (G.2.2.2.1 k j, bc_e G k j (M k j)) H
def bc_ok (G : bc_G) : Prop := G.1.stackTraces = false ∧ G.2.2.1 = bc_tl G ∧ (∀ (k : Nat) (j : Int), 0 ≤ j → j < bc_n k → G.2.2.2.2.size ≤ G.2.2.2.1 k j) ∧ ∀ (k k' : Nat) (j j' : Int), 0 ≤ j → j < bc_n k → 0 ≤ j' → j' < bc_n k' → G.2.2.2.1 k j = G.2.2.2.1 k' j' → k = k' ∧ j = j'
def bc_T (G : bc_G) (U : State) : Prop := vk_S 12 bc_len bc_byt (fun i => G.2.2.2.1 100 i) (fun i => G.2.2.2.1 101 i) (bc_A G) U G.2.2.2.2 ∧ (∀ q ∈ bc_strs, vk_R q.1 q.2.1 q.2.2.1 (G.2.2.2.1 100 q.2.2.2) U) ∧ va_Z "java/lang/String" "COMPACT_STRINGS" "Z" (.int 1) (bc_A G) U G.2.2.2.2 ∧ va_Zq "jdk/internal/util/Preconditions" "SIOOBE_FORMATTER" "Ljava/util/function/BiFunction;" (bc_A G) U G.2.2.2.2
def bc_casts : List String := ["java/lang/IllegalStateException", "java/lang/IllegalArgumentException", "java/util/NoSuchElementException"]
def bc_decl : List MethodName := [({ cls := "java/lang/RuntimeException", name := "<init>", desc := "()V" } : MethodName), ({ cls := "java/lang/RuntimeException", name := "<init>", desc := "(Ljava/lang/String;)V" } : MethodName), ({ cls := "java/lang/Exception", name := "<init>", desc := "()V" } : MethodName), ({ cls := "java/lang/Exception", name := "<init>", desc := "(Ljava/lang/String;)V" } : MethodName), ({ cls := "java/lang/Throwable", name := "<init>", desc := "()V" } : MethodName), ({ cls := "java/lang/Throwable", name := "<init>", desc := "(Ljava/lang/String;)V" } : MethodName)]
def bc_nc : List (String × String) := [("java/lang/IllegalArgumentException", "java/lang/IllegalStateException"), ("java/util/NoSuchElementException", "java/lang/IllegalStateException"), ("java/util/NoSuchElementException", "java/lang/IllegalArgumentException")]
def bc_S (G : bc_G) (U : State) : Prop := va_K G.2.1 bc_cl G.2.2.1 U ∧ (∀ w ∈ bc_nest, va_Nw w U) ∧ (vx_Zq Bundle.tN "UNASSIGNED_STACK" Bundle.steD (bc_A G) U G.2.2.2.2 ∧ vx_Zq Bundle.tN "SUPPRESSED_SENTINEL" Bundle.listD (bc_A G) U G.2.2.2.2) ∧ bc_T G U ∧ (∀ q ∈ bc_casts, va_Nw (.castable q q) U) ∧ (∀ q ∈ bc_nc, va_Nc q.1 q.2 U) ∧ ∀ y ∈ bc_decl, va_Nw (.declares y) U
theorem bc_nest_warm {s U : State} (hW : s.WarmedH U.vm) (h : ∀ w ∈ bc_nest, va_Nw w s) : ∀ w ∈ bc_nest, va_Nw w U := by
  intro w hw
  have h1 := h w hw
  simp only [bc_nest, List.mem_cons, List.not_mem_nil, or_false] at hw
  rcases hw with rfl | rfl | rfl | rfl | rfl | rfl | rfl | rfl | rfl | rfl | rfl <;> exact va_Nw.warmM hW h1
theorem bc_S.warm {G : bc_G} {s U : State} (hW : s.WarmedH U.vm) (h : bc_S G s) : bc_S G U := by
  obtain ⟨h1, h2, ⟨h3, h4⟩, ⟨h5, h6, h7, h8⟩, h9, h10, h11⟩ := h
  exact ⟨va_K.moved hW.alike h1, bc_nest_warm hW h2, ⟨vx_Zq.moved hW.alike h3, vx_Zq.moved hW.alike h4⟩, ⟨vk_S.moved hW.alike h5, fun q hq => vk_R.warm hW (h6 q hq), va_Z.moved hW.alike h7, va_Zq.moved hW.alike h8⟩, fun q hq => va_Nw.warmC hW (h9 q hq), fun q hq => va_Nc.moved hW.alike (h10 q hq), fun q hq => va_Nw.warmD hW (h11 q hq)⟩
theorem bc_S.call {G : bc_G} {U : State} (g : JFrame) (mk : MethodId) (a : Array Value) (h : bc_S G U) : bc_S G (U.calling g mk a) := bc_S.warm (s := U) (U := U.calling g mk a) (State.WarmedH.refl U) h
/-- what a method's body knows: the machine, its code, the tables' words, the world's static side -/
def bc_C (G : bc_G) (own : String) (cc : ByteArray) (mL : Nat) (rt : Option FieldType) (p : Program) (s : State) (m : MethodId) (args : Array Value) (meth : Method) (c : Code) : Prop :=
  p.tables.exec = Jvm.exec ∧ c.code = cc ∧ meth.sig.returnType = rt ∧ c.maxLocals = mL ∧ s.vm.findClass own = some m.cls ∧ (∀ w ∈ bc_wd, w.before args s = true) ∧ meth.locks = false ∧ (∀ x ∈ c.exceptionTable.toList, False) ∧ bc_S G s ∧ bc_ok G ∧ bc_O G s.heap
def bc_Q (G : bc_G) (post : bc_R → bc_M → Prop) : Array Value → State → Outcome → State → Prop := fun _ st o t => (∃ (v : Option Value) (M : bc_M), o = .returned v ∧ post (.inr v) M ∧ bc_H G M t.heap) ∧ va_F (bc_A G) st t
def bc_X (G : bc_G) (post : bc_R → bc_M → Prop) : String → State → State → Prop := fun E st t => (∃ M : bc_M, post (.inl E) M ∧ bc_H G M t.heap) ∧ va_F (bc_A G) st t
/-- the locals, by place -/
def bc_prs : Nat → List (Option Value) → List (Nat × Value)
  | _, [] => []
  | i, none :: r => bc_prs (i + 1) r
  | i, some v :: r => (i, v) :: bc_prs (i + 1) r
def bc_nth : List (Option Value) → Nat → Option Value
  | [], _ => none
  | a :: _, 0 => a
  | _ :: r, i + 1 => bc_nth r i
theorem bc_nth_mem : ∀ (L : List (Option Value)) (b i : Nat) (v : Value), bc_nth L i = some v → (b + i, v) ∈ bc_prs b L
  | [], _, _, _, h => by simp [bc_nth] at h
  | a :: r, b, 0, v, h => by
    simp only [bc_nth] at h
    subst h
    simp [bc_prs]
  | a :: r, b, i + 1, v, h => by
    simp only [bc_nth] at h
    have h1 := bc_nth_mem r (b + 1) i v h
    rw [show b + 1 + i = b + (i + 1) by omega] at h1
    cases a with
    | none => simpa [bc_prs] using h1
    | some w => simp only [bc_prs]; exact List.mem_cons_of_mem _ h1
theorem bc_mem_nth : ∀ (L : List (Option Value)) (b k : Nat) (v : Value), (k, v) ∈ bc_prs b L → ∃ i, k = b + i ∧ bc_nth L i = some v
  | [], _, _, _, h => by simp [bc_prs] at h
  | none :: r, b, k, v, h => by
    simp only [bc_prs] at h
    obtain ⟨i, h1, h2⟩ := bc_mem_nth r (b + 1) k v h
    exact ⟨i + 1, by omega, by simpa [bc_nth] using h2⟩
  | some w :: r, b, k, v, h => by
    simp only [bc_prs, List.mem_cons] at h
    rcases h with h | h
    · cases h
      exact ⟨0, rfl, rfl⟩
    · obtain ⟨i, h1, h2⟩ := bc_mem_nth r (b + 1) k v h
      exact ⟨i + 1, by omega, by simpa [bc_nth] using h2⟩
theorem bc_at {ls : Array Slot} {nL : Nat} {L : List (Option Value)} (h : lv_has ls nL (bc_prs 0 L)) {i : Nat} {v : Value} (hn : bc_nth L i = some v) : ls[i]? = some (.val v) := by
  have h1 := bc_nth_mem L 0 i v hn
  rw [Nat.zero_add] at h1
  exact h.2.2 (i, v) h1
theorem bc_nth_set : ∀ (L : List (Option Value)) (i j : Nat) (a : Option Value), bc_nth (L.set i a) j = if j = i ∧ i < L.length then a else bc_nth L j
  | [], i, j, a => by simp [bc_nth]
  | b :: r, 0, 0, a => by simp [bc_nth]
  | b :: r, 0, j + 1, a => by simp [bc_nth]
  | b :: r, i + 1, 0, a => by simp [bc_nth]
  | b :: r, i + 1, j + 1, a => by simp [bc_nth, bc_nth_set r i j a]
/-- the place ahead isn't a long's or a double's -/
def bc_pre (L : List (Option Value)) : Nat → Bool
  | 0 => true
  | i + 1 => match bc_nth L i with
    | none => true
    | some w => w.category == 1
theorem bc_put1 {ls : Array Slot} {nL : Nat} {L : List (Option Value)} {i : Nat} {v : Value} (hp : bc_pre L i = true) (h : lv_has ls nL ((i, v) :: (bc_prs 0 L).filter (fun q => !(q.1 == i) && !(q.1 + 1 == i && q.2.category == 2)))) : lv_has ls nL (bc_prs 0 (L.set i (some v))) := by
  refine ⟨h.1, h.2.1, fun q hq => h.2.2 q ?_⟩
  obtain ⟨k, w⟩ := q
  obtain ⟨j, h1, h2⟩ := bc_mem_nth _ _ _ _ hq
  rw [Nat.zero_add] at h1
  subst h1
  rw [bc_nth_set] at h2
  by_cases hj : k = i ∧ i < L.length
  · rw [if_pos hj] at h2
    cases h2
    rw [hj.1]
    exact List.mem_cons_self
  · rw [if_neg hj] at h2
    refine List.mem_cons_of_mem _ (List.mem_filter.mpr ⟨by have := bc_nth_mem L 0 k w h2; rwa [Nat.zero_add] at this, ?_⟩)
    have hki : k ≠ i := by
      intro e
      subst e
      have : k < L.length := by
        rcases Nat.lt_or_ge k L.length with q | q
        · exact q
        · exfalso
          have : ∀ (L : List (Option Value)) (k : Nat), L.length ≤ k → bc_nth L k = none := by
            intro L
            induction L with
            | nil => intro k _; rfl
            | cons a r ih =>
              intro k hk
              cases k with
              | zero => simp at hk
              | succ k => simp only [bc_nth]; exact ih k (by simpa using hk)
          rw [this L k q] at h2
          cases h2
      exact hj ⟨rfl, this⟩
    have hc : ¬ (k + 1 = i ∧ w.category = 2) := by
      rintro ⟨e1, e2⟩
      subst e1
      simp only [bc_pre, h2] at hp
      rw [e2] at hp
      exact absurd hp (by decide)
    simp only [Bool.and_eq_true, Bool.not_eq_true', beq_eq_false_iff_ne, ne_eq, Bool.and_eq_false_imp, beq_iff_eq]
    exact ⟨hki, fun e => fun e2 => hc ⟨e, by simpa using e2⟩⟩
def bc_W (G : bc_G) (own : String) (cc : ByteArray) (mL : Nat) (rt : Option FieldType) (d N u : Nat) (pc : Nat) (L : List (Option Value)) (st : List Value) (M : bc_M) (post : bc_R → bc_M → Prop) : Prop :=
  ∀ (p : Program) (e : Env) (s : State) (m : MethodId) (args : Array Value) (below : List Frame) (meth : Method) (c : Code) (H : Heap) (locs : List Loc) (ls : Array Slot),
    bc_C G own cc mL rt p s m args meth c → lv_has ls mL (bc_prs 0 L) → bc_H G M H → va_S (bc_A G) s.heap H locs →
    W p G.1 e (bc_rm d N) s m args below meth c H locs u (8 * u) (vx_MQ below (bc_Q G post) (bc_X G post) args s N (8 * N) (bc_A G)) (F0 m pc ls st)
/-- a method's contract, at depth d, with N exceptions at most -/
def bc_Call (G : bc_G) (y : MethodName) (yc : ByteArray) (yL : Nat) (yr : Option FieldType) (d N : Nat) (as : List Value) (M : bc_M) (post : bc_R → bc_M → Prop) : Prop :=
  bc_ok G → vx_Met G.1 y (Cond.code y yc yL yr :: bc_wd) (bc_rm d N) (va_Pc as (fun U => bc_H G M U.heap ∧ bc_S G U)) (bc_Q G post) (bc_X G post) N (8 * N) (bc_A G)
section ROWS
variable {G : bc_G} {own : String} {cc : ByteArray} {mL : Nat} {rt : Option FieldType} {d N u pc pc' : Nat} {L : List (Option Value)} {st : List Value} {M : bc_M} {post : bc_R → bc_M → Prop}

theorem wp_iload_n {i : Fin 4} {x : Int} (hd : bc_d cc pc (.iload_n i) 1 pc') (hn : bc_nth L i = some (vI x)) (K : bc_W G own cc mL rt d N u pc' L (vI x :: st) M post) : bc_W G own cc mL rt d N u pc L st M post := by
  intro p e s m args below meth c H locs ls C hl hH hS
  obtain ⟨hd, rfl⟩ := hd
  exact lv_iload_n C.1 C.2.1 hd rfl (bc_at hl hn) (K p e s m args below meth c H locs ls C hl hH hS)
theorem wp_iload {i : Nat} {x : Int} (hd : bc_d cc pc (.iload i) 2 pc') (hn : bc_nth L i = some (vI x)) (K : bc_W G own cc mL rt d N u pc' L (vI x :: st) M post) : bc_W G own cc mL rt d N u pc L st M post := by
  intro p e s m args below meth c H locs ls C hl hH hS
  obtain ⟨hd, rfl⟩ := hd
  exact lv_iload C.1 C.2.1 hd (bc_at hl hn) (K p e s m args below meth c H locs ls C hl hH hS)
theorem wp_lload_n {i : Fin 4} {x : Int} (hd : bc_d cc pc (.lload_n i) 1 pc') (hn : bc_nth L i = some (vJ x)) (K : bc_W G own cc mL rt d N u pc' L (vJ x :: st) M post) : bc_W G own cc mL rt d N u pc L st M post := by
  intro p e s m args below meth c H locs ls C hl hH hS
  obtain ⟨hd, rfl⟩ := hd
  exact lv_lload_n C.1 C.2.1 hd rfl (bc_at hl hn) (K p e s m args below meth c H locs ls C hl hH hS)
theorem wp_lload {i : Nat} {x : Int} (hd : bc_d cc pc (.lload i) 2 pc') (hn : bc_nth L i = some (vJ x)) (K : bc_W G own cc mL rt d N u pc' L (vJ x :: st) M post) : bc_W G own cc mL rt d N u pc L st M post := by
  intro p e s m args below meth c H locs ls C hl hH hS
  obtain ⟨hd, rfl⟩ := hd
  exact lv_lload C.1 C.2.1 hd (bc_at hl hn) (K p e s m args below meth c H locs ls C hl hH hS)
theorem wp_aload_n {i : Fin 4} {k : Nat} {j : Int} (hd : bc_d cc pc (.aload_n i) 1 pc') (hn : bc_nth L i = some (vR G k j)) (K : bc_W G own cc mL rt d N u pc' L (vR G k j :: st) M post) : bc_W G own cc mL rt d N u pc L st M post := by
  intro p e s m args below meth c H locs ls C hl hH hS
  obtain ⟨hd, rfl⟩ := hd
  exact lv_aload_n C.1 C.2.1 hd rfl (bc_at hl hn) (K p e s m args below meth c H locs ls C hl hH hS)
theorem wp_aload {i : Nat} {k : Nat} {j : Int} (hd : bc_d cc pc (.aload i) 2 pc') (hn : bc_nth L i = some (vR G k j)) (K : bc_W G own cc mL rt d N u pc' L (vR G k j :: st) M post) : bc_W G own cc mL rt d N u pc L st M post := by
  intro p e s m args below meth c H locs ls C hl hH hS
  obtain ⟨hd, rfl⟩ := hd
  exact lv_aload C.1 C.2.1 hd (bc_at hl hn) (K p e s m args below meth c H locs ls C hl hH hS)
theorem wp_dload_n {i : Fin 4} {x : UInt64} (hd : bc_d cc pc (.dload_n i) 1 pc') (hn : bc_nth L i = some (.double x)) (K : bc_W G own cc mL rt d N u pc' L (.double x :: st) M post) : bc_W G own cc mL rt d N u pc L st M post := by
  intro p e s m args below meth c H locs ls C hl hH hS
  obtain ⟨hd, rfl⟩ := hd
  exact lv_dload_n C.1 C.2.1 hd rfl (bc_at hl hn) (K p e s m args below meth c H locs ls C hl hH hS)
theorem wp_dload {i : Nat} {x : UInt64} (hd : bc_d cc pc (.dload i) 2 pc') (hn : bc_nth L i = some (.double x)) (K : bc_W G own cc mL rt d N u pc' L (.double x :: st) M post) : bc_W G own cc mL rt d N u pc L st M post := by
  intro p e s m args below meth c H locs ls C hl hH hS
  obtain ⟨hd, rfl⟩ := hd
  exact lv_dload C.1 C.2.1 hd (bc_at hl hn) (K p e s m args below meth c H locs ls C hl hH hS)
theorem wp_aload_o {i : Nat} {a : Nat} (hd : bc_d cc pc (.aload i) 2 pc') (hn : bc_nth L i = some (.ref a)) (K : bc_W G own cc mL rt d N u pc' L (.ref a :: st) M post) : bc_W G own cc mL rt d N u pc L st M post := by
  intro p e s m args below meth c H locs ls C hl hH hS
  obtain ⟨hd, rfl⟩ := hd
  exact lv_aload C.1 C.2.1 hd (bc_at hl hn) (K p e s m args below meth c H locs ls C hl hH hS)
theorem wp_aload_no {i : Fin 4} {a : Nat} (hd : bc_d cc pc (.aload_n i) 1 pc') (hn : bc_nth L i = some (.ref a)) (K : bc_W G own cc mL rt d N u pc' L (.ref a :: st) M post) : bc_W G own cc mL rt d N u pc L st M post := by
  intro p e s m args below meth c H locs ls C hl hH hS
  obtain ⟨hd, rfl⟩ := hd
  exact lv_aload_n C.1 C.2.1 hd rfl (bc_at hl hn) (K p e s m args below meth c H locs ls C hl hH hS)
theorem wp_istore_n {i : Fin 4} {x : Int} {L2 : List (Option Value)} (hd : bc_d cc pc (.istore_n i) 1 pc') (hL : L.set (i : Nat) (some (vI x)) = L2) (K : bc_W G own cc mL rt d N u pc' L2 st M post) (hp : bc_pre L (i : Nat) = true := by rfl) (hi : (i : Nat) < mL := by decide) : bc_W G own cc mL rt d N u pc L (vI x :: st) M post := by
  intro p e s m args below meth c H locs ls C hl hH hS
  obtain ⟨hd, rfl⟩ := hd
  subst hL
  refine lv_istore_n C.1 C.2.1 hd rfl hl hi rfl (fun ls hl => ?_)
  exact K p e s m args below meth c H locs ls C (bc_put1 hp hl) hH hS
theorem wp_istore {i : Nat} {x : Int} {L2 : List (Option Value)} (hd : bc_d cc pc (.istore i) 2 pc') (hL : L.set i (some (vI x)) = L2) (K : bc_W G own cc mL rt d N u pc' L2 st M post) (hp : bc_pre L i = true := by rfl) (hi : i < mL := by decide) : bc_W G own cc mL rt d N u pc L (vI x :: st) M post := by
  intro p e s m args below meth c H locs ls C hl hH hS
  obtain ⟨hd, rfl⟩ := hd
  subst hL
  refine lv_istore C.1 C.2.1 hd hl hi rfl (fun ls hl => ?_)
  exact K p e s m args below meth c H locs ls C (bc_put1 hp hl) hH hS
theorem wp_astore_n {i : Fin 4} {k : Nat} {j : Int} {L2 : List (Option Value)} (hd : bc_d cc pc (.astore_n i) 1 pc') (hL : L.set (i : Nat) (some (vR G k j)) = L2) (K : bc_W G own cc mL rt d N u pc' L2 st M post) (hp : bc_pre L (i : Nat) = true := by rfl) (hi : (i : Nat) < mL := by decide) : bc_W G own cc mL rt d N u pc L (vR G k j :: st) M post := by
  intro p e s m args below meth c H locs ls C hl hH hS
  obtain ⟨hd, rfl⟩ := hd
  subst hL
  refine lv_astore_n C.1 C.2.1 hd rfl hl hi rfl (fun ls hl => ?_)
  exact K p e s m args below meth c H locs ls C (bc_put1 hp hl) hH hS
theorem wp_astore {i : Nat} {k : Nat} {j : Int} {L2 : List (Option Value)} (hd : bc_d cc pc (.astore i) 2 pc') (hL : L.set i (some (vR G k j)) = L2) (K : bc_W G own cc mL rt d N u pc' L2 st M post) (hp : bc_pre L i = true := by rfl) (hi : i < mL := by decide) : bc_W G own cc mL rt d N u pc L (vR G k j :: st) M post := by
  intro p e s m args below meth c H locs ls C hl hH hS
  obtain ⟨hd, rfl⟩ := hd
  subst hL
  refine lv_astore C.1 C.2.1 hd hl hi rfl (fun ls hl => ?_)
  exact K p e s m args below meth c H locs ls C (bc_put1 hp hl) hH hS
theorem wp_iinc {i : Nat} {n x : Int} {L2 : List (Option Value)} (hd : bc_d cc pc (.iinc i n) 3 pc') (hn : bc_nth L i = some (vI x)) (hL : L.set i (some (vI (x + n))) = L2) (K : bc_W G own cc mL rt d N u pc' L2 st M post) (hp : bc_pre L i = true := by rfl) (hi : i < mL := by decide) : bc_W G own cc mL rt d N u pc L st M post := by
  intro p e s m args below meth c H locs ls C hl hH hS
  obtain ⟨hd, rfl⟩ := hd
  subst hL
  have hm := bc_nth_mem L 0 i _ hn
  rw [Nat.zero_add] at hm
  obtain ⟨q, hq⟩ := List.getElem?_of_mem hm
  refine lv_iinc (k := q) (x := Int32.ofInt x) (v := Int32.ofInt (x + n)) C.1 C.2.1 hd hl hq (by rw [Int32.ofInt_add]) hi rfl (fun ls hl => ?_)
  exact K p e s m args below meth c H locs ls C (bc_put1 hp hl) hH hS
theorem wp_forget {L2 : List (Option Value)} (h : ∀ (i : Nat) (v : Value), bc_nth L2 i = some v → bc_nth L i = some v) (K : bc_W G own cc mL rt d N u pc L2 st M post) : bc_W G own cc mL rt d N u pc L st M post := by
  intro p e s m args below meth c H locs ls C hl hH hS
  refine K p e s m args below meth c H locs ls C ⟨hl.1, hl.2.1, fun q hq => ?_⟩ hH hS
  obtain ⟨k, w⟩ := q
  obtain ⟨i, h1, h2⟩ := bc_mem_nth _ _ _ _ hq
  rw [Nat.zero_add] at h1
  subst h1
  exact bc_at hl (h _ _ h2)
theorem wp_iconst {n : Int} (hd : bc_d cc pc (.iconst n) 1 pc') (K : bc_W G own cc mL rt d N u pc' L (vI n :: st) M post) : bc_W G own cc mL rt d N u pc L st M post := by
  intro p e s m args below meth c H locs ls C hl hH hS
  obtain ⟨hd, rfl⟩ := hd
  exact lv_iconst C.1 C.2.1 hd rfl (K p e s m args below meth c H locs ls C hl hH hS)
theorem wp_bipush {n : Int} (hd : bc_d cc pc (.bipush n) 2 pc') (K : bc_W G own cc mL rt d N u pc' L (vI n :: st) M post) (hv : (Int8.ofInt n).toInt32 = Int32.ofInt n := by decide) : bc_W G own cc mL rt d N u pc L st M post := by
  intro p e s m args below meth c H locs ls C hl hH hS
  obtain ⟨hd, rfl⟩ := hd
  exact lv_bipush C.1 C.2.1 hd hv (K p e s m args below meth c H locs ls C hl hH hS)
theorem wp_sipush {n : Int} (hd : bc_d cc pc (.sipush n) 3 pc') (K : bc_W G own cc mL rt d N u pc' L (vI n :: st) M post) (hv : (Int16.ofInt n).toInt32 = Int32.ofInt n := by decide) : bc_W G own cc mL rt d N u pc L st M post := by
  intro p e s m args below meth c H locs ls C hl hH hS
  obtain ⟨hd, rfl⟩ := hd
  exact lv_sipush C.1 C.2.1 hd hv (K p e s m args below meth c H locs ls C hl hH hS)
theorem wp_ldci {i : Nat} {v : Int32} {n : Int} (hd : bc_d cc pc (.ldc i) 2 pc') (hw : Cond.constant own i v ∈ bc_wd) (hv : v = Int32.ofInt n) (K : bc_W G own cc mL rt d N u pc' L (vI n :: st) M post) : bc_W G own cc mL rt d N u pc L st M post := by
  intro p e s m args below meth c H locs ls C hl hH hS
  obtain ⟨hd, rfl⟩ := hd
  subst hv
  exact lv_ldc C.1 C.2.1 C.2.2.2.2.1 (C.2.2.2.2.2.1 _ hw) hd (K p e s m args below meth c H locs ls C hl hH hS)
theorem wp_ldc2 {i : Nat} {v : Int64} {n : Int} (hd : bc_d cc pc (.ldc2_w i) 3 pc') (hw : Cond.constantLong own i v ∈ bc_wd) (hv : v = Int64.ofInt n) (K : bc_W G own cc mL rt d N u pc' L (vJ n :: st) M post) : bc_W G own cc mL rt d N u pc L st M post := by
  intro p e s m args below meth c H locs ls C hl hH hS
  obtain ⟨hd, rfl⟩ := hd
  subst hv
  exact lv_ldc2 C.1 C.2.1 C.2.2.2.2.1 (C.2.2.2.2.2.1 _ hw) hd (K p e s m args below meth c H locs ls C hl hH hS)
theorem wp_lconst0 (hd : bc_d cc pc (.lconst 0) 1 pc') (K : bc_W G own cc mL rt d N u pc' L (vJ 0 :: st) M post) : bc_W G own cc mL rt d N u pc L st M post := by
  intro p e s m args below meth c H locs ls C hl hH hS
  obtain ⟨hd, rfl⟩ := hd
  exact lv_lconst C.1 C.2.1 hd rfl (K p e s m args below meth c H locs ls C hl hH hS)
theorem wp_lconst1 (hd : bc_d cc pc (.lconst 1) 1 pc') (K : bc_W G own cc mL rt d N u pc' L (vJ 1 :: st) M post) : bc_W G own cc mL rt d N u pc L st M post := by
  intro p e s m args below meth c H locs ls C hl hH hS
  obtain ⟨hd, rfl⟩ := hd
  exact lv_lconst C.1 C.2.1 hd rfl (K p e s m args below meth c H locs ls C hl hH hS)
theorem wp_dconst0 (hd : bc_d cc pc (.dconst 0) 1 pc') (K : bc_W G own cc mL rt d N u pc' L (.double FP.dconst0 :: st) M post) : bc_W G own cc mL rt d N u pc L st M post := by
  intro p e s m args below meth c H locs ls C hl hH hS
  obtain ⟨hd, rfl⟩ := hd
  exact lv_dconst0 C.1 C.2.1 hd (K p e s m args below meth c H locs ls C hl hH hS)
theorem wp_iadd {a b : Int} (hd : bc_d cc pc .iadd 1 pc') (K : bc_W G own cc mL rt d N u pc' L (vI (a + b) :: st) M post) : bc_W G own cc mL rt d N u pc L (vI b :: vI a :: st) M post := by
  intro p e s m args below meth c H locs ls C hl hH hS
  obtain ⟨hd, rfl⟩ := hd
  refine lv_iadd C.1 C.2.1 hd ?_
  rw [← Int32.ofInt_add]
  exact K p e s m args below meth c H locs ls C hl hH hS
theorem wp_isub {a b : Int} (hd : bc_d cc pc .isub 1 pc') (K : bc_W G own cc mL rt d N u pc' L (vI (a - b) :: st) M post) : bc_W G own cc mL rt d N u pc L (vI b :: vI a :: st) M post := by
  intro p e s m args below meth c H locs ls C hl hH hS
  obtain ⟨hd, rfl⟩ := hd
  refine lv_isub C.1 C.2.1 hd ?_
  rw [← Int32.ofInt_sub]
  exact K p e s m args below meth c H locs ls C hl hH hS
theorem wp_imul {a b : Int} (hd : bc_d cc pc .imul 1 pc') (K : bc_W G own cc mL rt d N u pc' L (vI (a * b) :: st) M post) : bc_W G own cc mL rt d N u pc L (vI b :: vI a :: st) M post := by
  intro p e s m args below meth c H locs ls C hl hH hS
  obtain ⟨hd, rfl⟩ := hd
  refine lv_imul C.1 C.2.1 hd ?_
  rw [← Int32.ofInt_mul]
  exact K p e s m args below meth c H locs ls C hl hH hS
theorem wp_ladd {a b : Int} (hd : bc_d cc pc .ladd 1 pc') (K : bc_W G own cc mL rt d N u pc' L (vJ (a + b) :: st) M post) : bc_W G own cc mL rt d N u pc L (vJ b :: vJ a :: st) M post := by
  intro p e s m args below meth c H locs ls C hl hH hS
  obtain ⟨hd, rfl⟩ := hd
  refine lv_ladd C.1 C.2.1 hd ?_
  rw [← Int64.ofInt_add]
  exact K p e s m args below meth c H locs ls C hl hH hS
theorem wp_lmul {a b : Int} (hd : bc_d cc pc .lmul 1 pc') (K : bc_W G own cc mL rt d N u pc' L (vJ (a * b) :: st) M post) : bc_W G own cc mL rt d N u pc L (vJ b :: vJ a :: st) M post := by
  intro p e s m args below meth c H locs ls C hl hH hS
  obtain ⟨hd, rfl⟩ := hd
  refine lv_lmul C.1 C.2.1 hd ?_
  rw [← Int64.ofInt_mul]
  exact K p e s m args below meth c H locs ls C hl hH hS
theorem wp_idiv {a b : Int} (hd : bc_d cc pc .idiv 1 pc') (K : bc_W G own cc mL rt d N u pc' L (vI (a / b) :: st) M post) (ha : 0 ≤ a ∧ a < 2147483648 := by omega) (hb : 0 < b ∧ b < 2147483648 := by omega) : bc_W G own cc mL rt d N u pc L (vI b :: vI a :: st) M post := by
  intro p e s m args below meth c H locs ls C hl hH hS
  obtain ⟨hd, rfl⟩ := hd
  refine lv_idiv C.1 C.2.1 hd (fun h => ?_) ?_
  · have := (bc_eq (x := b) (y := 0) ⟨by omega, by omega⟩ ⟨by omega, by omega⟩).mp h
    omega
  · rw [bc_div ha hb]
    exact K p e s m args below meth c H locs ls C hl hH hS
theorem wp_irem {a b : Int} (hd : bc_d cc pc .irem 1 pc') (K : bc_W G own cc mL rt d N u pc' L (vI (a % b) :: st) M post) (ha : 0 ≤ a ∧ a < 2147483648 := by omega) (hb : 0 < b ∧ b < 2147483648 := by omega) : bc_W G own cc mL rt d N u pc L (vI b :: vI a :: st) M post := by
  intro p e s m args below meth c H locs ls C hl hH hS
  obtain ⟨hd, rfl⟩ := hd
  refine lv_irem C.1 C.2.1 hd (fun h => ?_) ?_
  · have := (bc_eq (x := b) (y := 0) ⟨by omega, by omega⟩ ⟨by omega, by omega⟩).mp h
    omega
  · rw [bc_rem ha hb]
    exact K p e s m args below meth c H locs ls C hl hH hS
end ROWS
def bx_and (a b : Int) : Int := (Int32.ofInt a &&& Int32.ofInt b).toInt
def bx_or (a b : Int) : Int := (Int32.ofInt a ||| Int32.ofInt b).toInt
def bx_xor (a b : Int) : Int := (Int32.ofInt a ^^^ Int32.ofInt b).toInt
def bx_shl (a b : Int) : Int := (Int32.ofInt a <<< (Int32.ofInt b &&& 31)).toInt
def bx_shr (a b : Int) : Int := (Int32.ofInt a >>> (Int32.ofInt b &&& 31)).toInt
def bx_byte (a : Int) : Int := (Int32.ofInt a).toInt8.toInt32.toInt
def bx_cmp (a b : Int) : Int := if a > b then 1 else if a = b then 0 else -1
section ROWS2
variable {G : bc_G} {own : String} {cc : ByteArray} {mL : Nat} {rt : Option FieldType} {d N u pc pc' : Nat} {L : List (Option Value)} {st : List Value} {M : bc_M} {post : bc_R → bc_M → Prop}

theorem wp_iand {a b : Int} (hd : bc_d cc pc .iand 1 pc') (K : bc_W G own cc mL rt d N u pc' L (vI (bx_and a b) :: st) M post) : bc_W G own cc mL rt d N u pc L (vI b :: vI a :: st) M post := by
  intro p e s m args below meth c H locs ls C hl hH hS
  obtain ⟨hd, rfl⟩ := hd
  refine lv_iand C.1 C.2.1 hd ?_
  have := K p e s m args below meth c H locs ls C hl hH hS
  simp only [vI, bx_and, Int32.ofInt_toInt] at this
  exact this
theorem wp_ior {a b : Int} (hd : bc_d cc pc .ior 1 pc') (K : bc_W G own cc mL rt d N u pc' L (vI (bx_or a b) :: st) M post) : bc_W G own cc mL rt d N u pc L (vI b :: vI a :: st) M post := by
  intro p e s m args below meth c H locs ls C hl hH hS
  obtain ⟨hd, rfl⟩ := hd
  refine lv_ior C.1 C.2.1 hd ?_
  have := K p e s m args below meth c H locs ls C hl hH hS
  simp only [vI, bx_or, Int32.ofInt_toInt] at this
  exact this
theorem wp_ixor {a b : Int} (hd : bc_d cc pc .ixor 1 pc') (K : bc_W G own cc mL rt d N u pc' L (vI (bx_xor a b) :: st) M post) : bc_W G own cc mL rt d N u pc L (vI b :: vI a :: st) M post := by
  intro p e s m args below meth c H locs ls C hl hH hS
  obtain ⟨hd, rfl⟩ := hd
  refine lv_ixor C.1 C.2.1 hd ?_
  have := K p e s m args below meth c H locs ls C hl hH hS
  simp only [vI, bx_xor, Int32.ofInt_toInt] at this
  exact this
theorem wp_ishl {a b : Int} (hd : bc_d cc pc .ishl 1 pc') (K : bc_W G own cc mL rt d N u pc' L (vI (bx_shl a b) :: st) M post) : bc_W G own cc mL rt d N u pc L (vI b :: vI a :: st) M post := by
  intro p e s m args below meth c H locs ls C hl hH hS
  obtain ⟨hd, rfl⟩ := hd
  refine lv_ishl C.1 C.2.1 hd ?_
  have := K p e s m args below meth c H locs ls C hl hH hS
  simp only [vI, bx_shl, Int32.ofInt_toInt] at this
  exact this
theorem wp_ishr {a b : Int} (hd : bc_d cc pc .ishr 1 pc') (K : bc_W G own cc mL rt d N u pc' L (vI (bx_shr a b) :: st) M post) : bc_W G own cc mL rt d N u pc L (vI b :: vI a :: st) M post := by
  intro p e s m args below meth c H locs ls C hl hH hS
  obtain ⟨hd, rfl⟩ := hd
  refine lv_ishr C.1 C.2.1 hd ?_
  have := K p e s m args below meth c H locs ls C hl hH hS
  simp only [vI, bx_shr, Int32.ofInt_toInt] at this
  exact this
theorem wp_i2b {a : Int} (hd : bc_d cc pc .i2b 1 pc') (K : bc_W G own cc mL rt d N u pc' L (vI (bx_byte a) :: st) M post) : bc_W G own cc mL rt d N u pc L (vI a :: st) M post := by
  intro p e s m args below meth c H locs ls C hl hH hS
  obtain ⟨hd, rfl⟩ := hd
  refine lv_i2b C.1 C.2.1 hd rfl ?_
  have := K p e s m args below meth c H locs ls C hl hH hS
  simp only [vI, bx_byte, Int32.ofInt_toInt] at this
  exact this
theorem wp_i2l {a : Int} (hd : bc_d cc pc .i2l 1 pc') (K : bc_W G own cc mL rt d N u pc' L (vJ a :: st) M post) (ha : -2147483648 ≤ a ∧ a < 2147483648 := by omega) : bc_W G own cc mL rt d N u pc L (vI a :: st) M post := by
  intro p e s m args below meth c H locs ls C hl hH hS
  obtain ⟨hd, rfl⟩ := hd
  refine lv_i2l (v := Int64.ofInt a) C.1 C.2.1 hd ?_ (K p e s m args below meth c H locs ls C hl hH hS)
  apply bc_ofL
  rw [Int32.toInt_toInt64, bc_toInt ha]
theorem wp_lcmp {a b : Int} (hd : bc_d cc pc .lcmp 1 pc') (K : bc_W G own cc mL rt d N u pc' L (vI (bx_cmp a b) :: st) M post) (ha : -9223372036854775808 ≤ a ∧ a < 9223372036854775808 := by omega) (hb : -9223372036854775808 ≤ b ∧ b < 9223372036854775808 := by omega) : bc_W G own cc mL rt d N u pc L (vJ b :: vJ a :: st) M post := by
  intro p e s m args below meth c H locs ls C hl hH hS
  obtain ⟨hd, rfl⟩ := hd
  refine W.lcmp C.1 C.2.1 hd ?_
  have h : lg_cmp (Int64.ofInt a) (Int64.ofInt b) = Int32.ofInt (bx_cmp a b) := by
    unfold lg_cmp bx_cmp
    simp only [gt_iff_lt, bc_ltL hb ha, bc_eqL ha hb]
    split
    · rfl
    · split <;> rfl
  rw [h]
  exact K p e s m args below meth c H locs ls C hl hH hS
theorem wp_i2d {a : Int} (hd : bc_d cc pc .i2d 1 pc') (K : bc_W G own cc mL rt d N u pc' L (.double (FP.i2d (Int32.ofInt a)) :: st) M post) : bc_W G own cc mL rt d N u pc L (vI a :: st) M post := by
  intro p e s m args below meth c H locs ls C hl hH hS
  obtain ⟨hd, rfl⟩ := hd
  exact lv_i2d C.1 C.2.1 hd (K p e s m args below meth c H locs ls C hl hH hS)
theorem wp_l2d {a : Int} (hd : bc_d cc pc .l2d 1 pc') (K : bc_W G own cc mL rt d N u pc' L (.double (FP.l2d (Int64.ofInt a)) :: st) M post) : bc_W G own cc mL rt d N u pc L (vJ a :: st) M post := by
  intro p e s m args below meth c H locs ls C hl hH hS
  obtain ⟨hd, rfl⟩ := hd
  exact lv_l2d C.1 C.2.1 hd (K p e s m args below meth c H locs ls C hl hH hS)
theorem wp_ddiv {x y : UInt64} (hd : bc_d cc pc .ddiv 1 pc') (hn : vf_n64 (FP.ddiv x y)) (K : bc_W G own cc mL rt d N u pc' L (.double (FP.ddiv x y) :: st) M post) : bc_W G own cc mL rt d N u pc L (.double y :: .double x :: st) M post := by
  intro p e s m args below meth c H locs ls C hl hH hS
  obtain ⟨hd, rfl⟩ := hd
  exact lv_ddiv C.1 C.2.1 hd hn (K p e s m args below meth c H locs ls C hl hH hS)
theorem wp_dup {a : Value} (hd : bc_d cc pc .dup 1 pc') (K : bc_W G own cc mL rt d N u pc' L (a :: a :: st) M post) (ha : a.category = 1 := by rfl) : bc_W G own cc mL rt d N u pc L (a :: st) M post := by
  intro p e s m args below meth c H locs ls C hl hH hS
  obtain ⟨hd, rfl⟩ := hd
  exact lv_dup C.1 C.2.1 hd ha (K p e s m args below meth c H locs ls C hl hH hS)
theorem wp_dup2 {a b : Value} (hd : bc_d cc pc .dup2 1 pc') (K : bc_W G own cc mL rt d N u pc' L (a :: b :: a :: b :: st) M post) (ha : a.category = 1 := by rfl) (hb : b.category = 1 := by rfl) : bc_W G own cc mL rt d N u pc L (a :: b :: st) M post := by
  intro p e s m args below meth c H locs ls C hl hH hS
  obtain ⟨hd, rfl⟩ := hd
  exact lv_dup2_11 C.1 C.2.1 hd ha hb (K p e s m args below meth c H locs ls C hl hH hS)
theorem wp_pop {a : Value} (hd : bc_d cc pc .pop 1 pc') (K : bc_W G own cc mL rt d N u pc' L st M post) (ha : a.category = 1 := by rfl) : bc_W G own cc mL rt d N u pc L (a :: st) M post := by
  intro p e s m args below meth c H locs ls C hl hH hS
  obtain ⟨hd, rfl⟩ := hd
  exact lv_pop C.1 C.2.1 hd ha (K p e s m args below meth c H locs ls C hl hH hS)
theorem wp_icmp_eq {a b : Int} {tgt : Nat} (hd : bc_dc cc pc .eq tgt pc') (KT : a = b → bc_W G own cc mL rt d N u tgt L st M post) (KF : ¬ (a = b) → bc_W G own cc mL rt d N u pc' L st M post) (ha : -2147483648 ≤ a ∧ a < 2147483648 := by omega) (hb : -2147483648 ≤ b ∧ b < 2147483648 := by omega) : bc_W G own cc mL rt d N u pc L (vI b :: vI a :: st) M post := by
  intro p e s m args below meth c H locs ls C hl hH hS
  obtain ⟨⟨off, hd, ht⟩, rfl⟩ := hd
  exact lv_icmp_eq C.1 C.2.1 hd ht (fun h => KT ((bc_eq ha hb).mp h) p e s m args below meth c H locs ls C hl hH hS) (fun h => KF (fun q => h ((bc_eq ha hb).mpr q)) p e s m args below meth c H locs ls C hl hH hS)
theorem wp_if_eq {a : Int} {tgt : Nat} (hd : bc_dz cc pc .eq tgt pc') (KT : a = 0 → bc_W G own cc mL rt d N u tgt L st M post) (KF : ¬ (a = 0) → bc_W G own cc mL rt d N u pc' L st M post) (ha : -2147483648 ≤ a ∧ a < 2147483648 := by omega) : bc_W G own cc mL rt d N u pc L (vI a :: st) M post := by
  intro p e s m args below meth c H locs ls C hl hH hS
  obtain ⟨⟨off, hd, ht⟩, rfl⟩ := hd
  have hb : -2147483648 ≤ (0 : Int) ∧ (0 : Int) < 2147483648 := by omega
  exact lv_if_eq C.1 C.2.1 hd ht (fun h => KT ((bc_eq ha hb).mp h) p e s m args below meth c H locs ls C hl hH hS) (fun h => KF (fun q => h ((bc_eq ha hb).mpr q)) p e s m args below meth c H locs ls C hl hH hS)
theorem wp_icmp_ne {a b : Int} {tgt : Nat} (hd : bc_dc cc pc .ne tgt pc') (KT : a ≠ b → bc_W G own cc mL rt d N u tgt L st M post) (KF : ¬ (a ≠ b) → bc_W G own cc mL rt d N u pc' L st M post) (ha : -2147483648 ≤ a ∧ a < 2147483648 := by omega) (hb : -2147483648 ≤ b ∧ b < 2147483648 := by omega) : bc_W G own cc mL rt d N u pc L (vI b :: vI a :: st) M post := by
  intro p e s m args below meth c H locs ls C hl hH hS
  obtain ⟨⟨off, hd, ht⟩, rfl⟩ := hd
  exact lv_icmp_ne C.1 C.2.1 hd ht (fun h => KT (fun q => h ((bc_eq ha hb).mpr q)) p e s m args below meth c H locs ls C hl hH hS) (fun h => KF (fun q => q ((bc_eq ha hb).mp h)) p e s m args below meth c H locs ls C hl hH hS)
theorem wp_if_ne {a : Int} {tgt : Nat} (hd : bc_dz cc pc .ne tgt pc') (KT : a ≠ 0 → bc_W G own cc mL rt d N u tgt L st M post) (KF : ¬ (a ≠ 0) → bc_W G own cc mL rt d N u pc' L st M post) (ha : -2147483648 ≤ a ∧ a < 2147483648 := by omega) : bc_W G own cc mL rt d N u pc L (vI a :: st) M post := by
  intro p e s m args below meth c H locs ls C hl hH hS
  obtain ⟨⟨off, hd, ht⟩, rfl⟩ := hd
  have hb : -2147483648 ≤ (0 : Int) ∧ (0 : Int) < 2147483648 := by omega
  exact lv_if_ne C.1 C.2.1 hd ht (fun h => KT (fun q => h ((bc_eq ha hb).mpr q)) p e s m args below meth c H locs ls C hl hH hS) (fun h => KF (fun q => q ((bc_eq ha hb).mp h)) p e s m args below meth c H locs ls C hl hH hS)
theorem wp_icmp_lt {a b : Int} {tgt : Nat} (hd : bc_dc cc pc .lt tgt pc') (KT : a < b → bc_W G own cc mL rt d N u tgt L st M post) (KF : ¬ (a < b) → bc_W G own cc mL rt d N u pc' L st M post) (ha : -2147483648 ≤ a ∧ a < 2147483648 := by omega) (hb : -2147483648 ≤ b ∧ b < 2147483648 := by omega) : bc_W G own cc mL rt d N u pc L (vI b :: vI a :: st) M post := by
  intro p e s m args below meth c H locs ls C hl hH hS
  obtain ⟨⟨off, hd, ht⟩, rfl⟩ := hd
  exact lv_icmp_lt C.1 C.2.1 hd ht (fun h => KT ((bc_lt ha hb).mp h) p e s m args below meth c H locs ls C hl hH hS) (fun h => KF (fun q => h ((bc_lt ha hb).mpr q)) p e s m args below meth c H locs ls C hl hH hS)
theorem wp_if_lt {a : Int} {tgt : Nat} (hd : bc_dz cc pc .lt tgt pc') (KT : a < 0 → bc_W G own cc mL rt d N u tgt L st M post) (KF : ¬ (a < 0) → bc_W G own cc mL rt d N u pc' L st M post) (ha : -2147483648 ≤ a ∧ a < 2147483648 := by omega) : bc_W G own cc mL rt d N u pc L (vI a :: st) M post := by
  intro p e s m args below meth c H locs ls C hl hH hS
  obtain ⟨⟨off, hd, ht⟩, rfl⟩ := hd
  have hb : -2147483648 ≤ (0 : Int) ∧ (0 : Int) < 2147483648 := by omega
  exact lv_if_lt C.1 C.2.1 hd ht (fun h => KT ((bc_lt ha hb).mp h) p e s m args below meth c H locs ls C hl hH hS) (fun h => KF (fun q => h ((bc_lt ha hb).mpr q)) p e s m args below meth c H locs ls C hl hH hS)
theorem wp_icmp_ge {a b : Int} {tgt : Nat} (hd : bc_dc cc pc .ge tgt pc') (KT : b ≤ a → bc_W G own cc mL rt d N u tgt L st M post) (KF : ¬ (b ≤ a) → bc_W G own cc mL rt d N u pc' L st M post) (ha : -2147483648 ≤ a ∧ a < 2147483648 := by omega) (hb : -2147483648 ≤ b ∧ b < 2147483648 := by omega) : bc_W G own cc mL rt d N u pc L (vI b :: vI a :: st) M post := by
  intro p e s m args below meth c H locs ls C hl hH hS
  obtain ⟨⟨off, hd, ht⟩, rfl⟩ := hd
  exact lv_icmp_ge C.1 C.2.1 hd ht (fun h => KT ((bc_le hb ha).mp h) p e s m args below meth c H locs ls C hl hH hS) (fun h => KF (fun q => h ((bc_le hb ha).mpr q)) p e s m args below meth c H locs ls C hl hH hS)
theorem wp_if_ge {a : Int} {tgt : Nat} (hd : bc_dz cc pc .ge tgt pc') (KT : 0 ≤ a → bc_W G own cc mL rt d N u tgt L st M post) (KF : ¬ (0 ≤ a) → bc_W G own cc mL rt d N u pc' L st M post) (ha : -2147483648 ≤ a ∧ a < 2147483648 := by omega) : bc_W G own cc mL rt d N u pc L (vI a :: st) M post := by
  intro p e s m args below meth c H locs ls C hl hH hS
  obtain ⟨⟨off, hd, ht⟩, rfl⟩ := hd
  have hb : -2147483648 ≤ (0 : Int) ∧ (0 : Int) < 2147483648 := by omega
  exact lv_if_ge C.1 C.2.1 hd ht (fun h => KT ((bc_le hb ha).mp h) p e s m args below meth c H locs ls C hl hH hS) (fun h => KF (fun q => h ((bc_le hb ha).mpr q)) p e s m args below meth c H locs ls C hl hH hS)
theorem wp_icmp_gt {a b : Int} {tgt : Nat} (hd : bc_dc cc pc .gt tgt pc') (KT : b < a → bc_W G own cc mL rt d N u tgt L st M post) (KF : ¬ (b < a) → bc_W G own cc mL rt d N u pc' L st M post) (ha : -2147483648 ≤ a ∧ a < 2147483648 := by omega) (hb : -2147483648 ≤ b ∧ b < 2147483648 := by omega) : bc_W G own cc mL rt d N u pc L (vI b :: vI a :: st) M post := by
  intro p e s m args below meth c H locs ls C hl hH hS
  obtain ⟨⟨off, hd, ht⟩, rfl⟩ := hd
  exact lv_icmp_gt C.1 C.2.1 hd ht (fun h => KT ((bc_lt hb ha).mp h) p e s m args below meth c H locs ls C hl hH hS) (fun h => KF (fun q => h ((bc_lt hb ha).mpr q)) p e s m args below meth c H locs ls C hl hH hS)
theorem wp_if_gt {a : Int} {tgt : Nat} (hd : bc_dz cc pc .gt tgt pc') (KT : 0 < a → bc_W G own cc mL rt d N u tgt L st M post) (KF : ¬ (0 < a) → bc_W G own cc mL rt d N u pc' L st M post) (ha : -2147483648 ≤ a ∧ a < 2147483648 := by omega) : bc_W G own cc mL rt d N u pc L (vI a :: st) M post := by
  intro p e s m args below meth c H locs ls C hl hH hS
  obtain ⟨⟨off, hd, ht⟩, rfl⟩ := hd
  have hb : -2147483648 ≤ (0 : Int) ∧ (0 : Int) < 2147483648 := by omega
  exact lv_if_gt C.1 C.2.1 hd ht (fun h => KT ((bc_lt hb ha).mp h) p e s m args below meth c H locs ls C hl hH hS) (fun h => KF (fun q => h ((bc_lt hb ha).mpr q)) p e s m args below meth c H locs ls C hl hH hS)
theorem wp_icmp_le {a b : Int} {tgt : Nat} (hd : bc_dc cc pc .le tgt pc') (KT : a ≤ b → bc_W G own cc mL rt d N u tgt L st M post) (KF : ¬ (a ≤ b) → bc_W G own cc mL rt d N u pc' L st M post) (ha : -2147483648 ≤ a ∧ a < 2147483648 := by omega) (hb : -2147483648 ≤ b ∧ b < 2147483648 := by omega) : bc_W G own cc mL rt d N u pc L (vI b :: vI a :: st) M post := by
  intro p e s m args below meth c H locs ls C hl hH hS
  obtain ⟨⟨off, hd, ht⟩, rfl⟩ := hd
  exact lv_icmp_le C.1 C.2.1 hd ht (fun h => KT ((bc_le ha hb).mp h) p e s m args below meth c H locs ls C hl hH hS) (fun h => KF (fun q => h ((bc_le ha hb).mpr q)) p e s m args below meth c H locs ls C hl hH hS)
theorem wp_if_le {a : Int} {tgt : Nat} (hd : bc_dz cc pc .le tgt pc') (KT : a ≤ 0 → bc_W G own cc mL rt d N u tgt L st M post) (KF : ¬ (a ≤ 0) → bc_W G own cc mL rt d N u pc' L st M post) (ha : -2147483648 ≤ a ∧ a < 2147483648 := by omega) : bc_W G own cc mL rt d N u pc L (vI a :: st) M post := by
  intro p e s m args below meth c H locs ls C hl hH hS
  obtain ⟨⟨off, hd, ht⟩, rfl⟩ := hd
  have hb : -2147483648 ≤ (0 : Int) ∧ (0 : Int) < 2147483648 := by omega
  exact lv_if_le C.1 C.2.1 hd ht (fun h => KT ((bc_le ha hb).mp h) p e s m args below meth c H locs ls C hl hH hS) (fun h => KF (fun q => h ((bc_le ha hb).mpr q)) p e s m args below meth c H locs ls C hl hH hS)
theorem wp_goto {tgt : Nat} (hd : bc_dg cc pc tgt) (K : bc_W G own cc mL rt d N u tgt L st M post) : bc_W G own cc mL rt d N u pc L st M post := by
  intro p e s m args below meth c H locs ls C hl hH hS
  obtain ⟨off, hd, ht⟩ := hd
  exact lv_goto C.1 C.2.1 hd ht (K p e s m args below meth c H locs ls C hl hH hS)
theorem wp_ireturn {a : Int} (hd : bc_d cc pc .ireturn 1 pc') (K : post (.inr (some (vI a))) M) (hu : u ≤ N := by decide) : bc_W G own cc mL (some .int) d N u pc L [vI a] M post := by
  intro p e s m args below meth c H locs ls C hl hH hS
  obtain ⟨hd, -⟩ := hd
  refine W.widen (k := N) (n := 8 * N) hu (Nat.mul_le_mul_left 8 hu) ?_
  refine vx_ret ?_
  exact W.iret C.1 C.2.1 C.2.2.1 (fun t ht hW => ⟨⟨_, M, rfl, K, by rw [ht]; exact hH⟩, hS.F ht⟩) (fun q hq => hS.2.2 q hq) hd C.2.2.2.2.2.2.1
theorem wp_zreturn {a : Int} (hd : bc_d cc pc .ireturn 1 pc') (hz : a = 0 ∨ a = 1) (K : post (.inr (some (vI a))) M) (hu : u ≤ N := by decide) : bc_W G own cc mL (some .boolean) d N u pc L [vI a] M post := by
  intro p e s m args below meth c H locs ls C hl hH hS
  obtain ⟨hd, -⟩ := hd
  refine W.widen (k := N) (n := 8 * N) hu (Nat.mul_le_mul_left 8 hu) ?_
  refine vx_ret ?_
  exact W.zret C.1 C.2.1 C.2.2.1 (by rcases hz with rfl | rfl <;> rfl) (fun t ht hW => ⟨⟨_, M, rfl, K, by rw [ht]; exact hH⟩, hS.F ht⟩) (fun q hq => hS.2.2 q hq) hd C.2.2.2.2.2.2.1
theorem wp_lreturn {a : Int} (hd : bc_d cc pc .lreturn 1 pc') (K : post (.inr (some (vJ a))) M) (hu : u ≤ N := by decide) : bc_W G own cc mL (some .long) d N u pc L [vJ a] M post := by
  intro p e s m args below meth c H locs ls C hl hH hS
  obtain ⟨hd, -⟩ := hd
  refine W.widen (k := N) (n := 8 * N) hu (Nat.mul_le_mul_left 8 hu) ?_
  refine vx_ret ?_
  exact W.lret C.1 C.2.1 C.2.2.1 (fun t ht hW => ⟨⟨_, M, rfl, K, by rw [ht]; exact hH⟩, hS.F ht⟩) (fun q hq => hS.2.2 q hq) hd C.2.2.2.2.2.2.1
theorem wp_dreturn {a : UInt64} (hd : bc_d cc pc .dreturn 1 pc') (K : post (.inr (some (.double a))) M) (hu : u ≤ N := by decide) : bc_W G own cc mL (some .double) d N u pc L [.double a] M post := by
  intro p e s m args below meth c H locs ls C hl hH hS
  obtain ⟨hd, -⟩ := hd
  refine W.widen (k := N) (n := 8 * N) hu (Nat.mul_le_mul_left 8 hu) ?_
  refine vx_ret ?_
  exact W.dret C.1 C.2.1 C.2.2.1 (fun t ht hW => ⟨⟨_, M, rfl, K, by rw [ht]; exact hH⟩, hS.F ht⟩) (fun q hq => hS.2.2 q hq) hd C.2.2.2.2.2.2.1
theorem wp_return (hd : bc_d cc pc .return_ 1 pc') (K : post (.inr none) M) (hu : u ≤ N := by decide) : bc_W G own cc mL none d N u pc L [] M post := by
  intro p e s m args below meth c H locs ls C hl hH hS
  obtain ⟨hd, -⟩ := hd
  refine W.widen (k := N) (n := 8 * N) hu (Nat.mul_le_mul_left 8 hu) ?_
  refine vx_ret ?_
  exact W.vret C.1 C.2.1 C.2.2.1 (fun t ht hW => ⟨⟨_, M, rfl, K, by rw [ht]; exact hH⟩, hS.F ht⟩) (fun q hq => hS.2.2 q hq) hd C.2.2.2.2.2.2.1
end ROWS2
