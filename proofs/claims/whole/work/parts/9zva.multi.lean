/-! multianewarray of two dimensions: the outer row at h, the inner ones behind it -/
def mz_o (c : ClassId) (N h i : Nat) : Cell := arrV c N (fun q => if q < i then .ref (h + 1 + q) else .null)
def mz_i (c : ClassId) (M : Nat) : Cell := { cls := c, slots := Array.replicate M (.int 0), vm := .none }
def mz_s (S : State) (cO cI : ClassId) (N M : Nat) : Nat → State
  | 0 => S.pushCell (mz_o cO N S.heap.size 0)
  | i + 1 => ((mz_s S cO cI N M i).pushCell (mz_i cI M)).setCell S.heap.size (mz_o cO N S.heap.size (i + 1))
theorem mz_set {c : ClassId} {N h i : Nat} : (mz_o c N h i).setSlot i (.ref (h + 1 + i)) = mz_o c N h (i + 1) := by
  unfold mz_o
  rw [arrV_store]
  congr 1
  funext q
  unfold updV
  by_cases hq : q = i
  · subst hq; rw [if_pos rfl, if_pos (by omega)]
  · rw [if_neg hq]
    show (if q < i then Value.ref (h + 1 + q) else Value.null) = _
    by_cases h2 : q < i
    · rw [if_pos h2, if_pos (by omega)]
    · rw [if_neg h2, if_neg (by omega)]
theorem mz_vm {S : State} {cO cI : ClassId} {N M : Nat} : ∀ i, (mz_s S cO cI N M i).vm = S.vm
  | 0 => rfl
  | i + 1 => mz_vm (S := S) (cO := cO) (cI := cI) (N := N) (M := M) i
theorem mz_used {S : State} {cO cI : ClassId} {N M : Nat} : ∀ i, (mz_s S cO cI N M i).slotsUsed = S.slotsUsed + N + M * i
  | 0 => by
    show S.slotsUsed + (mz_o cO N S.heap.size 0).slots.size = _
    rw [show (mz_o cO N S.heap.size 0).slots.size = N from arrV_size _ _ _]
    omega
  | i + 1 => by
    show (mz_s S cO cI N M i).slotsUsed + (Array.replicate M (Value.int 0)).size = _
    rw [mz_used (S := S) (cO := cO) (cI := cI) (N := N) (M := M) i, Array.size_replicate, Nat.mul_succ]
    omega
theorem mz_top {S : State} {f : JFrame} {cO cI : ClassId} {N M : Nat} : ∀ i, mz_s (S.setTop f) cO cI N M i = (mz_s S cO cI N M i).setTop f
  | 0 => rfl
  | i + 1 => by
    show ((mz_s (S.setTop f) cO cI N M i).pushCell (mz_i cI M)).setCell S.heap.size _ = _
    rw [mz_top i]
    rfl
theorem mz_facts {S : State} {cO cI : ClassId} {N M : Nat} : ∀ i, (mz_s S cO cI N M i).heap.size = S.heap.size + 1 + i ∧ (mz_s S cO cI N M i).heap[S.heap.size]? = some (mz_o cO N S.heap.size i) ∧ (∀ q : Nat, q < S.heap.size → (mz_s S cO cI N M i).heap[q]? = S.heap[q]?) ∧ ∀ q : Nat, q < i → (mz_s S cO cI N M i).heap[S.heap.size + 1 + q]? = some (mz_i cI M)
  | 0 => by
    have e : (mz_s S cO cI N M 0).heap = S.heap.push (mz_o cO N S.heap.size 0) := rfl
    rw [e]
    refine ⟨by rw [Array.size_push], by rw [Array.getElem?_push_size], fun q hq => by rw [Array.getElem?_push, if_neg (Nat.ne_of_lt hq)], fun q hq => absurd hq (Nat.not_lt_zero q)⟩
  | i + 1 => by
    obtain ⟨h1, h2, h3, h4⟩ := mz_facts (S := S) (cO := cO) (cI := cI) (N := N) (M := M) i
    have e : (mz_s S cO cI N M (i + 1)).heap = ((mz_s S cO cI N M i).heap.push (mz_i cI M)).setIfInBounds S.heap.size (mz_o cO N S.heap.size (i + 1)) := rfl
    rw [e]
    refine ⟨by rw [Array.size_setIfInBounds, Array.size_push, h1]; omega, ?_, fun q hq => ?_, fun q hq => ?_⟩
    · rw [Array.getElem?_setIfInBounds, if_pos rfl, if_pos (by rw [Array.size_push, h1]; omega)]
    · rw [Array.getElem?_setIfInBounds, if_neg (by omega), Array.getElem?_push, if_neg (by rw [h1]; omega)]
      exact h3 q hq
    · rw [Array.getElem?_setIfInBounds, if_neg (by omega), Array.getElem?_push]
      by_cases hqi : q = i
      · rw [if_pos (by rw [h1, hqi])]
      · rw [if_neg (by rw [h1]; omega)]
        exact h4 q (by omega)
section MZ
variable {p : Program} {l : Launch} {e : Env} {R : Room} {s : State} {m : MethodId} {args : Array Value} {below : List Frame} {meth : Method} {c : Code} {S T : State} {locs : List Loc} {cells slots : Nat} {cO cI comp : ClassId} {kO kI : Class} {N M : Nat}
theorem mz_stand (X : Stand p l e R s m args below meth c S locs cells slots) : ∀ i, ∃ L1 : List Loc, (∀ q ∈ L1, q.base = S.heap.size) ∧ Stand p l e R s m args below meth c (mz_s S cO cI N M i) (locs ++ L1) (cells + 1 + i) (slots + N + M * i)
  | 0 => by
    have h := X.pushed (mz_o cO N S.heap.size 0)
    rw [show (mz_o cO N S.heap.size 0).slots.size = N from arrV_size _ _ _] at h
    refine ⟨[], fun q hq => absurd hq List.not_mem_nil, ?_⟩
    rw [List.append_nil]
    exact h
  | i + 1 => by
    obtain ⟨L1, h1, h2⟩ := mz_stand X i
    obtain ⟨f1, f2, -, -⟩ := mz_facts (S := S) (cO := cO) (cI := cI) (N := N) (M := M) i
    have h3 := h2.pushed (mz_i cI M)
    have h4 := h3.stored (a := S.heap.size) (cell := mz_o cO N S.heap.size i) (by
      show ((mz_s S cO cI N M i).heap.push _)[S.heap.size]? = _
      rw [Array.getElem?_push, if_neg (by rw [f1]; omega)]
      exact f2) i (.ref (S.heap.size + 1 + i))
    rw [mz_set, List.append_assoc, show slots + N + M * i + (mz_i cI M).slots.size = slots + N + M * (i + 1) by
      show slots + N + M * i + (Array.replicate M (Value.int 0)).size = _
      rw [Array.size_replicate, Nat.mul_succ]
      omega] at h4
    refine ⟨L1 ++ [({ base := S.heap.size, slot := i } : Loc)], fun q hq => ?_, h4⟩
    rcases List.mem_append.mp hq with a | a
    · exact h1 q a
    · rw [List.mem_singleton.mp a]
theorem mz_inner {U : State} {k : Int32} {Q : Addr → Pre} {E : CtlPost} {d : Bool} {acts : List Action} (hkI : U.vm.classes[cI]? = some kI) (hI : kI.kind = .array comp .int) (hk : ¬ k < 0) (hl : ¬ k.toNatClampNeg > e.platform.arrayLengthLimit) (hh : ¬ k.toNatClampNeg * componentBytes .int > e.platform.maxHeapBytes) (hc : U.heap.size < e.platform.maxCells) (hs : U.slotsUsed + k.toNatClampNeg ≤ e.platform.maxSlots)
    (hq : ∀ acts', Q U.heap.size d acts' (U.pushCell (mz_i cI k.toNatClampNeg))) : wp (Op.multianewarray.make cI [k]) Q E e d acts U := by
  rw [Op.multianewarray.make]
  simp only [wp_bind', W.ite, if_neg hk, wp_pure', W.theClass, hkI, Option.some.injEq, exists_eq_left', hI]
  exact W.newArray_of hkI hI hl hh hc hs rfl hq
theorem mz_loop {F : Nat → PUnit → Sem (ForInStep PUnit)} {Q : PUnit → Pre} {E : CtlPost}
    (hF : ∀ (i : Nat) (u : PUnit) (d : Bool) (acts : List Action) (Q' : ForInStep PUnit → Pre), i < N → (∀ d acts, Q' (.yield PUnit.unit) d acts (mz_s S cO cI N M (i + 1))) → wp (F i u) Q' E e d acts (mz_s S cO cI N M i))
    (hq : ∀ d acts, Q PUnit.unit d acts (mz_s S cO cI N M N)) : ∀ (r i : Nat) (d : Bool) (acts : List Action), i + r = N → wp (forIn (List.range' i r 1) PUnit.unit F) Q E e d acts (mz_s S cO cI N M i)
  | 0, i, d, acts, h => by
    obtain rfl : i = N := by omega
    rw [List.range'_zero, List.forIn_nil, wp_pure']
    exact hq d acts
  | r + 1, i, d, acts, h => by
    rw [List.range'_succ, List.forIn_cons, wp_bind']
    refine hF i PUnit.unit d acts _ (by omega) (fun d acts => ?_)
    exact mz_loop hF hq r (i + 1) d acts (by omega)
theorem mz_make {n k : Int32} {Q : Addr → Pre} {E : CtlPost} {d : Bool} {acts : List Action} (hkO : S.vm.classes[cO]? = some kO) (hO : kO.kind = .array cI (.array .int)) (hkI : S.vm.classes[cI]? = some kI) (hI : kI.kind = .array comp .int) (hn : ¬ n < 0) (hk : ¬ k < 0)
    (hl1 : ¬ n.toNatClampNeg > e.platform.arrayLengthLimit) (hh1 : ¬ n.toNatClampNeg * componentBytes (.array .int) > e.platform.maxHeapBytes) (hl : ¬ k.toNatClampNeg > e.platform.arrayLengthLimit) (hh : ¬ k.toNatClampNeg * componentBytes .int > e.platform.maxHeapBytes)
    (hN : n.toNatClampNeg = N) (hM : k.toNatClampNeg = M) (hc : S.heap.size + (1 + N) ≤ e.platform.maxCells) (hs : S.slotsUsed + (N + M * N) ≤ e.platform.maxSlots)
    (hq : ∀ d acts, Q S.heap.size d acts (mz_s S cO cI N M N)) : wp (Op.multianewarray.make cO [n, k]) Q E e d acts S := by
  have e1 : [k].find? (· < 0) = none := by simp [hk]
  rw [Op.multianewarray.make]
  simp only [wp_bind', W.ite, if_neg hn, wp_pure', W.theClass, hkO, Option.some.injEq, exists_eq_left', hO]
  refine W.newArray_of hkO hO hl1 hh1 (by omega) (by rw [hN]; omega) rfl (fun acts' => ?_)
  have e2 : S.pushCell ({ cls := cO, slots := Array.replicate n.toNatClampNeg .null } : Cell) = mz_s S cO cI N M 0 := by
    show S.pushCell ({ cls := cO, slots := Array.replicate n.toNatClampNeg .null, vm := .none } : Cell) = S.pushCell (mz_o cO N S.heap.size 0)
    rw [arrV_new, hN]
    rfl
  rw [e2]
  simp only [e1, wp_pure', ite_self]
  rw [Std.Legacy.Range.forIn_eq_forIn_range', hN, wp_bind']
  have e3 : ([:N] : Std.Legacy.Range).size = N := by
    show (N - 0 + 1 - 1) / 1 = N
    rw [Nat.div_one]
    omega
  rw [e3]
  show wp (forIn (List.range' 0 N 1) PUnit.unit _) _ E e d acts' (mz_s S cO cI N M 0)
  refine mz_loop (fun i u d acts Q' hi hq' => ?_) (fun d acts => ?_) N 0 d acts' (by omega)
  · obtain ⟨f1, f2, -, -⟩ := mz_facts (S := S) (cO := cO) (cI := cI) (N := N) (M := M) i
    have hmu : M * (i + 1) ≤ M * N := Nat.mul_le_mul_left M hi
    rw [Nat.mul_succ] at hmu
    simp only [wp_bind', W.writeLoc, wp_pure']
    refine mz_inner (by rw [mz_vm]; exact hkI) hI hk hl hh (by rw [f1]; omega) (by rw [mz_used, hM]; omega) (fun acts'' => ?_)
    refine ⟨mz_o cO N S.heap.size i, ?_, (fun h => by cases h), ?_, ?_, ?_⟩
    · show ((mz_s S cO cI N M i).heap.push _)[S.heap.size]? = _
      rw [Array.getElem?_push, if_neg (by rw [f1]; omega)]
      exact f2
    · rw [show (mz_o cO N S.heap.size i).slots.size = N from arrV_size _ _ _]
      exact hi
    · have h9 : ((mz_s S cO cI N M i).pushCell (mz_i cI k.toNatClampNeg)).vm = S.vm := mz_vm i
      show ((mz_s S cO cI N M i).pushCell (mz_i cI k.toNatClampNeg)).fitsSlot cO .none i _ = true
      simp only [State.fitsSlot, State.slotType?, h9, hkO, Option.bind_eq_bind, Option.bind_some, hO]
      rfl
    · show Q' (.yield PUnit.unit) true _ (((mz_s S cO cI N M i).pushCell (mz_i cI k.toNatClampNeg)).setCell S.heap.size ((mz_o cO N S.heap.size i).setSlot i (.ref (mz_s S cO cI N M i).heap.size)))
      rw [f1, mz_set, hM]
      exact hq' _ _
  · exact hq d acts
theorem mz_wp {f : JFrame} {idx : Nat} {n k : Int32} {rest : List Value} {Q : Unit → Pre} {E : CtlPost} {d : Bool} {acts : List Action} (htop : S.topJava?.isSome) (hr : S.vm.classReady f.method.cls idx cO) (hstack : f.stack = .int k :: .int n :: rest) (hkO : S.vm.classes[cO]? = some kO) (hO : kO.kind = .array cI (.array .int)) (hkI : S.vm.classes[cI]? = some kI) (hI : kI.kind = .array comp .int) (hn : ¬ n < 0) (hk : ¬ k < 0)
    (hl1 : ¬ n.toNatClampNeg > e.platform.arrayLengthLimit) (hh1 : ¬ n.toNatClampNeg * componentBytes (.array .int) > e.platform.maxHeapBytes) (hl : ¬ k.toNatClampNeg > e.platform.arrayLengthLimit) (hh : ¬ k.toNatClampNeg * componentBytes .int > e.platform.maxHeapBytes)
    (hN : n.toNatClampNeg = N) (hM : k.toNatClampNeg = M) (hc : S.heap.size + (1 + N) ≤ e.platform.maxCells) (hs : S.slotsUsed + (N + M * N) ≤ e.platform.maxSlots)
    (hq : ∀ d acts, Q () d acts ((mz_s S cO cI N M N).setTop { f with stack := .ref S.heap.size :: rest })) : wp (Op.multianewarray.sem idx 2) Q E e d acts (S.setTop f) := by
  simp only [Op.multianewarray.sem, wp_bind', W.resolveClassAt_ready (State.method?_setTop f htop) hr]
  simp only [popN, wp_bind', W.pop, wp_pure', State.topJava?_setTop' _ htop, Option.some.injEq, exists_eq_left', hstack, List.cons.injEq, exists_cons_eq, State.setTop_setTop, List.nil_append, List.cons_append, List.mapM, List.mapM.loop, List.reverse_cons, List.reverse_nil]
  refine mz_make (S := S.setTop { f with stack := rest }) hkO hO hkI hI hn hk hl1 hh1 hl hh hN hM hc hs (fun d acts => ?_)
  rw [mz_top]
  have ht : (mz_s S cO cI N M N).topJava?.isSome := by
    have h : ∀ i, (mz_s S cO cI N M i).topJava? = S.topJava? := fun i => by
      induction i with
      | zero => rfl
      | succ i ih => exact ih
    rw [h]
    exact htop
  refine ⟨_, State.topJava?_setTop' _ ht, ?_⟩
  rw [State.setTop_setTop]
  exact hq _ _
theorem mz_step (X : Stand p l e R s m args below meth c T locs cells slots) (hexec : p.tables.exec = Jvm.exec) {own : String} {idx : Nat} (hown : s.vm.findClass own = some m.cls) (hlink : (Cond.classLink own idx "[[I").before args s = true) (hover : (Cond.arrayOver (.array .int)).before args s = true) (harr : (Cond.arrayClass .int).before args s = true)
    {g : JFrame} (hg : g.method = m) (hdg : decode c.code g.pc = .ok (.multianewarray idx 2, 4)) {n k : Int32} {rest : List Value} (hstack : g.stack = .int k :: .int n :: rest) (hn : ¬ n < 0) (hk : ¬ k < 0) (hN : n.toNatClampNeg = N) (hM : k.toNatClampNeg = M) (hbN : N * 4 ≤ 536870912) (hbM : M * 4 ≤ 536870912) (hcells : cells + (1 + N) ≤ R.cells) (hslots : slots + (N + M * N) ≤ R.slots) :
    ∃ (vm₁ : Vm) (cO cI : ClassId) (L1 : List Loc), s.vm.findClass ("[" ++ (FieldType.array .int).toString) = some cO ∧ s.vm.findClass ("[" ++ FieldType.int.toString) = some cI ∧ (∀ q ∈ L1, q.base = T.heap.size) ∧
      Stand p l e R s m args below meth c (mz_s (T.setVm vm₁) cO cI N M N) (locs ++ L1) (cells + 1 + N) (slots + N + M * N) ∧
      ∀ target, Steps p.tables e below ((mz_s (T.setVm vm₁) cO cI N M N).setTop { g with pc := g.pc + 4, stack := .ref T.heap.size :: rest }) target → Steps p.tables e below (T.setTop g) target := by
  subst hg
  have hpl : e.platform.magicAccessors = ({} : Platform).magicAccessors := by rw [X.admits.platform]
  obtain ⟨cI, cO, kO, hI0, -, hkO, hO, hO0⟩ := arrayOverA_spec (args := args) (first := s) (o := none) (s := s) (idx := []) (t := .int) hover
  obtain ⟨cI', kI, comp, hI1, hkI, hI⟩ := Cond.arrayClass_spec (args := args) (first := s) (o := none) (s := s) (idx := []) (type := .int) harr
  have hci : cI' = cI := Option.some.inj (hI1.symm.trans hI0)
  subst hci
  obtain ⟨cc, hfcc, hcl⟩ := Cond.classLink_spec (args := args) (first := s) (o := none) (s := s) (idx := []) hown hlink e.platform hpl
  have hcc : cc = cO := Option.some.inj (hfcc.symm.trans hO0)
  subst hcc
  obtain ⟨hg₁, hwarm₁, hready₁⟩ := State.classEntry (e := e) X.warmed hcl
  generalize T.vm.noted g.method.cls idx (.cls cc) = vm₁ at hg₁ hwarm₁ hready₁
  have hal : s.vm.Alike vm₁ := hwarm₁.alike
  obtain ⟨kO₁, hkO₁, eO⟩ := hal.2.2 _ _ hkO
  obtain ⟨kI₁, hkI₁, eI⟩ := hal.2.2 _ _ hkI
  have hO₁ : kO₁.kind = .array cI' (.array .int) := by rw [eO]; exact hO
  have hI₁ : kI₁.kind = .array comp .int := by rw [eI]; exact hI
  obtain ⟨hr1, hr2⟩ := X.roomAbove hcells hslots
  obtain ⟨L1, hL1, X1⟩ := mz_stand (cO := cc) (cI := cI') (N := N) (M := M) (X.noted hwarm₁) N
  refine ⟨vm₁, cc, cI', L1, hO0, hI1, hL1, X1, fun target hrest => ?_⟩
  refine Steps.instr (c := c) X.here ?_
  rw [hdg]
  show wpRun (p.tables.exec (.multianewarray idx 2)) _ _ e (T.setTop g)
  rw [hexec]
  show wp (Op.multianewarray.sem idx 2) _ _ e false [] (T.setTop g)
  have hcold : ∀ (Q : Unit → Pre) (E : CtlPost), wp (Op.multianewarray.sem idx 2) Q E e false [] ((T.setVm vm₁).setTop g) → wp (Op.multianewarray.sem idx 2) Q E e false [] (T.setTop g) := fun Q E h => by
    simp only [Op.multianewarray.sem, wp_bind'] at h ⊢
    exact (W.resolveClassAt_transfer (s := T.setTop g) (State.method?_setTop g X.here.top) hg₁ hready₁).mpr h
  refine hcold _ _ ?_
  refine mz_wp (S := T.setVm vm₁) X.here.top hready₁ hstack hkO₁ hO₁ hkI₁ hI₁ hn hk ?_ ?_ ?_ ?_ hN hM hr1 hr2 (fun d acts => ?_)
  · rw [Launch.admits_arrayLengthLimit X.admits]; omega
  · rw [Launch.admits_maxHeapBytes X.admits]; show ¬ n.toNatClampNeg * 4 > 536870912; omega
  · rw [Launch.admits_arrayLengthLimit X.admits]; omega
  · rw [Launch.admits_maxHeapBytes X.admits]; show ¬ k.toNatClampNeg * 4 > 536870912; omega
  · intro acts'
    rw [afterInstr_ok]
    exact hrest
end MZ
