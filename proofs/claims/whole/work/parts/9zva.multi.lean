/-! multianewarray of two dimensions: the outer row at h, the inner ones behind it -/
def mz_o (c : ClassId) (N h i : Nat) : Cell := arrV c N (fun q => if q < i then .ref (h + 1 + q) else .null)
def mz_i (c : ClassId) (M : Nat) : Cell := { cls := c, slots := Array.replicate M (.int 0), vm := .none }
def mz_s (S : State) (cO cI : ClassId) (N M : Nat) : Nat → State
  | 0 => S.pushCell (mz_o cO N S.heap.size 0)
  | i + 1 => ((mz_s S cO cI N M i).pushCell (mz_i cI M)).setCell S.heap.size (mz_o cO N S.heap.size (i + 1))
theorem mz_set {c : ClassId} {N h i : Nat} : (mz_o c N h i).setSlot i (.ref (h + 1 + i)) = mz_o c N h (i + 1) := by
  unfold mz_o
  rw [arrV_store]
  congr 1
  funext q
  unfold updV
  by_cases hq : q = i
  · subst hq; rw [if_pos rfl, if_pos (by omega)]
  · rw [if_neg hq]
    by_cases h2 : q < i
    · rw [if_pos h2, if_pos (by omega)]
    · rw [if_neg h2, if_neg (by omega)]
theorem mz_vm {S : State} {cO cI : ClassId} {N M : Nat} : ∀ i, (mz_s S cO cI N M i).vm = S.vm
  | 0 => rfl
  | i + 1 => mz_vm (S := S) (cO := cO) (cI := cI) (N := N) (M := M) i
theorem mz_used {S : State} {cO cI : ClassId} {N M : Nat} : ∀ i, (mz_s S cO cI N M i).slotsUsed = S.slotsUsed + N + M * i
  | 0 => by
    show S.slotsUsed + (mz_o cO N S.heap.size 0).slots.size = _
    rw [show (mz_o cO N S.heap.size 0).slots.size = N from arrV_size _ _ _]
    omega
  | i + 1 => by
    show (mz_s S cO cI N M i).slotsUsed + (Array.replicate M (Value.int 0)).size = _
    rw [mz_used (S := S) (cO := cO) (cI := cI) (N := N) (M := M) i, Array.size_replicate, Nat.mul_succ]
    omega
theorem mz_top {S : State} {f : JFrame} {cO cI : ClassId} {N M : Nat} : ∀ i, mz_s (S.setTop f) cO cI N M i = (mz_s S cO cI N M i).setTop f
  | 0 => rfl
  | i + 1 => by
    show ((mz_s (S.setTop f) cO cI N M i).pushCell (mz_i cI M)).setCell S.heap.size _ = _
    rw [mz_top i]
    rfl
theorem mz_facts {S : State} {cO cI : ClassId} {N M : Nat} : ∀ i, (mz_s S cO cI N M i).heap.size = S.heap.size + 1 + i ∧ (mz_s S cO cI N M i).heap[S.heap.size]? = some (mz_o cO N S.heap.size i) ∧ (∀ q : Nat, q < S.heap.size → (mz_s S cO cI N M i).heap[q]? = S.heap[q]?) ∧ ∀ q : Nat, q < i → (mz_s S cO cI N M i).heap[S.heap.size + 1 + q]? = some (mz_i cI M)
  | 0 => by
    have e : (mz_s S cO cI N M 0).heap = S.heap.push (mz_o cO N S.heap.size 0) := rfl
    rw [e]
    refine ⟨by rw [Array.size_push], by rw [Array.getElem?_push_size], fun q hq => by rw [Array.getElem?_push, if_neg (Nat.ne_of_lt hq)], fun q hq => absurd hq (Nat.not_lt_zero q)⟩
  | i + 1 => by
    obtain ⟨h1, h2, h3, h4⟩ := mz_facts (S := S) (cO := cO) (cI := cI) (N := N) (M := M) i
    have e : (mz_s S cO cI N M (i + 1)).heap = ((mz_s S cO cI N M i).heap.push (mz_i cI M)).setIfInBounds S.heap.size (mz_o cO N S.heap.size (i + 1)) := rfl
    rw [e]
    refine ⟨by rw [Array.size_setIfInBounds, Array.size_push, h1]; omega, ?_, fun q hq => ?_, fun q hq => ?_⟩
    · rw [Array.getElem?_setIfInBounds, if_pos rfl, if_pos (by rw [Array.size_push, h1]; omega)]
    · rw [Array.getElem?_setIfInBounds, if_neg (by omega), Array.getElem?_push, if_neg (by rw [h1]; omega)]
      exact h3 q hq
    · rw [Array.getElem?_setIfInBounds, if_neg (by omega), Array.getElem?_push]
      by_cases hqi : q = i
      · rw [if_pos (by rw [h1, hqi])]
      · rw [if_neg (by rw [h1]; omega)]
        exact h4 q (by omega)
section MZ
variable {p : Program} {l : Launch} {e : Env} {R : Room} {s : State} {m : MethodId} {args : Array Value} {below : List Frame} {meth : Method} {c : Code} {S T : State} {locs : List Loc} {cells slots : Nat} {cO cI comp : ClassId} {kO kI : Class} {N M : Nat}
theorem mz_stand (X : Stand p l e R s m args below meth c S locs cells slots) : ∀ i, ∃ L1 : List Loc, (∀ q ∈ L1, q.base = S.heap.size) ∧ Stand p l e R s m args below meth c (mz_s S cO cI N M i) (locs ++ L1) (cells + 1 + i) (slots + N + M * i)
  | 0 => by
    have h := X.pushed (mz_o cO N S.heap.size 0)
    rw [show (mz_o cO N S.heap.size 0).slots.size = N from arrV_size _ _ _] at h
    refine ⟨[], fun q hq => absurd hq List.not_mem_nil, ?_⟩
    rw [List.append_nil]
    exact h
  | i + 1 => by
    obtain ⟨L1, h1, h2⟩ := mz_stand X i
    obtain ⟨f1, f2, -, -⟩ := mz_facts (S := S) (cO := cO) (cI := cI) (N := N) (M := M) i
    have h3 := h2.pushed (mz_i cI M)
    have h4 := h3.stored (a := S.heap.size) (cell := mz_o cO N S.heap.size i) (by
      show ((mz_s S cO cI N M i).heap.push _)[S.heap.size]? = _
      rw [Array.getElem?_push, if_neg (by rw [f1]; omega)]
      exact f2) i (.ref (S.heap.size + 1 + i))
    rw [mz_set, List.append_assoc, show slots + N + M * i + (mz_i cI M).slots.size = slots + N + M * (i + 1) by
      show slots + N + M * i + (Array.replicate M (Value.int 0)).size = _
      rw [Array.size_replicate, Nat.mul_succ]
      omega] at h4
    refine ⟨L1 ++ [⟨S.heap.size, i⟩], fun q hq => ?_, h4⟩
    rcases List.mem_append.mp hq with a | a
    · exact h1 q a
    · rw [List.mem_singleton.mp a]
theorem mz_inner {U : State} {k : Int32} {Q : Addr → Pre} {E : CtlPost} {d : Bool} {acts : List Action} (hkI : U.vm.classes[cI]? = some kI) (hI : kI.kind = .array comp .int) (hk : ¬ k < 0) (hl : ¬ k.toNatClampNeg > e.platform.arrayLengthLimit) (hh : ¬ k.toNatClampNeg * componentBytes .int > e.platform.maxHeapBytes) (hc : U.heap.size < e.platform.maxCells) (hs : U.slotsUsed + k.toNatClampNeg ≤ e.platform.maxSlots)
    (hq : ∀ acts', Q U.heap.size d acts' (U.pushCell (mz_i cI k.toNatClampNeg))) : wp (Op.multianewarray.make cI [k]) Q E e d acts U := by
  rw [Op.multianewarray.make]
  simp only [wp_bind', W.ite, if_neg hk, wp_pure', W.theClass, hkI, Option.some.injEq, exists_eq_left', hI]
  exact W.newArray_of hkI hI hl hh hc hs rfl hq
theorem mz_loop {F : Nat → PUnit → Sem (ForInStep PUnit)} {Q : PUnit → Pre} {E : CtlPost}
    (hF : ∀ (i : Nat) (u : PUnit) (d : Bool) (acts : List Action) (Q' : ForInStep PUnit → Pre), i < N → (∀ d acts, Q' (.yield PUnit.unit) d acts (mz_s S cO cI N M (i + 1))) → wp (F i u) Q' E e d acts (mz_s S cO cI N M i))
    (hq : ∀ d acts, Q PUnit.unit d acts (mz_s S cO cI N M N)) : ∀ (r i : Nat) (d : Bool) (acts : List Action), i + r = N → wp (forIn (List.range' i r 1) PUnit.unit F) Q E e d acts (mz_s S cO cI N M i)
  | 0, i, d, acts, h => by
    obtain rfl : i = N := by omega
    rw [List.range'_zero, List.forIn_nil, wp_pure']
    exact hq d acts
  | r + 1, i, d, acts, h => by
    rw [List.range'_succ, List.forIn_cons, wp_bind']
    refine hF i PUnit.unit d acts _ (by omega) (fun d acts => ?_)
    exact mz_loop hF hq r (i + 1) d acts (by omega)
theorem mz_make {n k : Int32} {Q : Addr → Pre} {E : CtlPost} {d : Bool} {acts : List Action} (hkO : S.vm.classes[cO]? = some kO) (hO : kO.kind = .array cI (.array .int)) (hkI : S.vm.classes[cI]? = some kI) (hI : kI.kind = .array comp .int) (hn : ¬ n < 0) (hk : ¬ k < 0)
    (hl1 : ¬ n.toNatClampNeg > e.platform.arrayLengthLimit) (hh1 : ¬ n.toNatClampNeg * componentBytes (.array .int) > e.platform.maxHeapBytes) (hl : ¬ k.toNatClampNeg > e.platform.arrayLengthLimit) (hh : ¬ k.toNatClampNeg * componentBytes .int > e.platform.maxHeapBytes)
    (hN : n.toNatClampNeg = N) (hM : k.toNatClampNeg = M) (hc : S.heap.size + (1 + N) ≤ e.platform.maxCells) (hs : S.slotsUsed + (N + M * N) ≤ e.platform.maxSlots)
    (hq : ∀ d acts, Q S.heap.size d acts (mz_s S cO cI N M N)) : wp (Op.multianewarray.make cO [n, k]) Q E e d acts S := by
  have e1 : [k].find? (· < 0) = none := by simp [hk]
  rw [Op.multianewarray.make]
  simp only [wp_bind', W.ite, if_neg hn, wp_pure', W.theClass, hkO, Option.some.injEq, exists_eq_left', hO]
  refine W.newArray_of hkO hO hl1 hh1 (by omega) (by rw [hN]; omega) rfl (fun acts' => ?_)
  have e2 : S.pushCell ({ cls := cO, slots := Array.replicate n.toNatClampNeg .null } : Cell) = mz_s S cO cI N M 0 := by
    show S.pushCell ({ cls := cO, slots := Array.replicate n.toNatClampNeg .null, vm := .none } : Cell) = S.pushCell (mz_o cO N S.heap.size 0)
    rw [arrV_new, hN]
    rfl
  rw [e2]
  simp only [e1, wp_pure', ite_self]
  rw [Std.Legacy.Range.forIn_eq_forIn_range']
  rw [hN]
  show wp (forIn (List.range' 0 N 1) PUnit.unit _) _ E e d acts' (mz_s S cO cI N M 0)
  refine mz_loop (fun i u d acts Q' hi hq' => ?_) (fun d acts => ?_) N 0 d acts' (by omega)
  · obtain ⟨f1, f2, -, -⟩ := mz_facts (S := S) (cO := cO) (cI := cI) (N := N) (M := M) i
    have hmu : M * (i + 1) ≤ M * N := Nat.mul_le_mul_left M hi
    rw [Nat.mul_succ] at hmu
    simp only [wp_bind', W.writeLoc, wp_pure']
    refine mz_inner (by rw [mz_vm]; exact hkI) hI hk hl hh (by rw [f1]; omega) (by rw [mz_used, hM]; omega) (fun acts'' => ?_)
    refine ⟨mz_o cO N S.heap.size i, ?_, fun h => by cases h, ?_, ?_, ?_⟩
    · show ((mz_s S cO cI N M i).heap.push _)[S.heap.size]? = _
      rw [Array.getElem?_push, if_neg (by rw [f1]; omega)]
      exact f2
    · rw [show (mz_o cO N S.heap.size i).slots.size = N from arrV_size _ _ _]
      exact hi
    · have h9 : ((mz_s S cO cI N M i).pushCell (mz_i cI k.toNatClampNeg)).vm = S.vm := mz_vm i
      show ((mz_s S cO cI N M i).pushCell (mz_i cI k.toNatClampNeg)).fitsSlot cO .none i _ = true
      simp only [State.fitsSlot, State.slotType?, h9, hkO, Option.bind_eq_bind, Option.bind_some, hO]
      rfl
    · rw [f1, mz_set, hM]
      exact hq' _ _
  · exact hq d acts
end MZ
