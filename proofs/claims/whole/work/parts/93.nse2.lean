section Ends2
variable {p : Program} {l : Launch} {e : Env} {R : Room} {s : State} {m : MethodId} {args : Array Value} {below : List Frame} {meth : Method} {c : Code} {H : Heap} {locs : List Loc} {cells slots : Nat}
variable {mc ms : Nat} {free : Addr → Prop} {ls : Array Slot} {rest : List Value}
variable {Qc : Array Value → State → Outcome → State → Prop} {XC : String → State → State → Prop}
theorem bn_throw {cc : ByteArray} {pc : Nat} (hexec : p.tables.exec = Jvm.exec) (hb : c.code = cc) (hl : l.stackTraces = false) {own text : String} {ik is ic mc ms sa : Nat} {A : Nat → Prop}
    (hown : s.vm.findClass own = some m.cls) 
    (hk : (Cond.classLink own ik bn_X).before args s = true) (hini : (Cond.initialized bn_X).before args s = true) (hstr : vk_R own is text sa s) (hat : ∀ w ∈ (bn_all own ic).filter vx_no, w.before args s = true)
    (hgood : ∀ w ∈ Cond.classLink own ik bn_X :: Cond.initialized bn_X :: (bn_all own ic).filter vx_no, vx_ot w = true)
    (hU : vx_Zq Bundle.tN "UNASSIGNED_STACK" Bundle.steD A s s.heap) (hN : vx_Zq Bundle.tN "SUPPRESSED_SENTINEL" Bundle.listD A s s.heap) (hS : va_S A s.heap H locs) (hsize : ls.size = c.maxLocals)
    (d0 : decode cc pc = .ok (.new ik, 3)) (d3 : decode cc (pc + 3) = .ok (.dup, 1)) (d4 : decode cc (pc + 4) = .ok (.ldc_w is, 3)) (d7 : decode cc (pc + 7) = .ok (.invokespecial ic, 3)) (d10 : decode cc (pc + 10) = .ok (.athrow, 1))
    (hout : ∀ x ∈ c.exceptionTable.toList, covers x (pc + 10) = false)
    (hRframes : 5 < R.frames) (hRlocals : (rest.map fun v => v.category).sum + (13 * 3 + 43) ≤ R.locals) (hRcells : cells + 1 ≤ R.cells) (hRslots : slots + 6 ≤ R.slots) (hlocks : meth.locks = false)
    (hx : ∀ t : State, s.vm.Alike t.vm → H.size ≤ t.heap.size → (∀ q : Nat, q < H.size → t.heap[q]? = H[q]?) → XC bn_X s t)
    (hf : ∀ z ∈ locs, free z.base) (hc : cells + 1 ≤ mc) (hs : slots + 6 ≤ ms) :
    W p l e R s m args below meth c H locs cells slots (vx_MQ below Qc XC args s mc ms free) (F0 m pc ls rest) := by
  intro T hT X
  have htr : e.platform.stackTraces = false := (show e.platform.stackTraces = l.stackTraces by rw [X.admits.platform]).trans hl
  have Y := vx_rebase X (R' := { frames := R.frames, locals := R.locals, cells := 1, slots := 6 }) (Nat.le_refl _) (Nat.le_refl _) hRcells hRslots
  obtain ⟨s', hA⟩ : ∃ z, z = (T.setVm s.vm).setFrames (.invoking m args :: below) := ⟨_, rfl⟩
  rw [← hA] at Y
  have hvm : s'.vm = s.vm := by rw [hA]; rfl
  have hhp : s'.heap = H := by rw [hA]; exact hT
  have hW0 : s.WarmedH s'.vm := by rw [hvm]; exact State.WarmedH.refl s
  have hat' : ∀ w ∈ (bn_all own ic).filter vx_no, w.before args s' = true := fun w hw => vx_ot_at hW0 hvm.symm (hgood w (List.mem_cons_of_mem _ (List.mem_cons_of_mem _ hw))) (hat w hw)
  have hk' : (Cond.classLink own ik bn_X).before args s' = true := vx_ot_at hW0 hvm.symm (hgood _ List.mem_cons_self) hk
  have hini' : (Cond.initialized bn_X).before args s' = true := vx_ot_at hW0 hvm.symm (hgood _ (List.mem_cons_of_mem _ List.mem_cons_self)) hini
  have hU' : vx_Zq Bundle.tN "UNASSIGNED_STACK" Bundle.steD A s' s'.heap := by rw [hhp]; exact vx_Zq.moved hW0.alike (hU.kept hS.2.1)
  have hN' : vx_Zq Bundle.tN "SUPPRESSED_SENTINEL" Bundle.listD A s' s'.heap := by rw [hhp]; exact vx_Zq.moved hW0.alike (hN.kept hS.2.1)
  have h : ∀ w ∈ bn_all own ic, w.before args s' = true := vx_own hat' (vx_isRefq hU'.1) (vx_isRefq hN'.1) hU'.2.word hN'.2.word
  have hown' : s'.vm.findClass own = some m.cls := by rw [hvm]; exact hown
  have hins : (Cond.instantiable bn_X 6).before args s' = true := h _ (by simp [bn_all])
  obtain ⟨vm₁, cX, kX, hfX, hkX, -, -, X₁, st1⟩ := Y.newCold hexec (own := own) (C := bn_X) (index := ik) (n := 6) hown' hk' hins hini'
    (g := F0 m pc ls rest) rfl (by rw [hb]; exact d0) (Nat.le_refl _) (Nat.le_refl _)
  generalize hT1 : (T.setVm vm₁).pushCell { cls := cX, slots := kX.instanceTypes.map defaultValue, vm := .none } = T1 at X₁ st1
  have hcat : (Value.ref T.heap.size).category = 1 := rfl
  have hcellA : T1.heap[T.heap.size]? = some (freshCell cX kX) := by rw [← hT1]; exact State.heap_pushCell_size _ _
  have d3' : decode c.code (pc + 3) = .ok (.dup, 1) := by rw [hb]; exact d3
  have d4' : decode c.code (pc + 4) = .ok (.ldc_w is, 3) := by rw [hb]; exact d4
  have hstr' : vk_R own is text sa s' := vk_R.warm hW0 hstr
  obtain ⟨U, hsteps, hrun, hend, hW, hsame, ce, hce, hO1, hO2⟩ := bn_ctor X₁ hexec htr (own := own) (ic := ic) hown' h (fun x hx => nomatch hx) hfX hkX hcellA (by rw [hhp, hT]; exact Nat.le_refl _) (msg := .ref sa) rfl
    (g := { method := m, pc := pc + 7, locals := ls, stack := .ref sa :: .ref T.heap.size :: .ref T.heap.size :: rest, locked := none }) rfl hsize rfl rfl (rest := rest) rfl
    (by rw [hb]; exact d7) (by rw [hb]; exact d10) hout hRframes (by simp only [List.map_cons, List.sum_cons, hcat]; omega) hlocks
  obtain ⟨f1, f2⟩ := vx_frame hsame
  rw [hhp] at f1 f2
  have hWs : s.WarmedH U.vm := State.WarmedH.trans hW0 hW
  have hcl : s.vm.findClass bn_X = some ce.cls := by
    have h9 := hO2
    rw [hvm] at h9
    exact h9
  have hall : s.sameButNew ({ U with vm := s.vm } : State) locs mc ms := by
    subst hA
    obtain ⟨e1, e2⟩ := hsame
    rw [State.setFrames_setFrames] at e1
    have h2 : (T.setVm s.vm).sameButNew ({ U with vm := s.vm } : State) [] (0 + 1) (0 + 6) := ⟨e1, e2⟩
    have h3 := X.same.trans h2
    rw [List.append_nil] at h3
    exact h3.mono hc hs
  refine ⟨U, ?_, .threw T.heap.size, hrun, hend, Or.inr ⟨T.heap.size, rfl, bn_X, ce, locs, hx U hWs.alike f1 (fun q hq => f2 q hq (fun z hz => nomatch hz)), hce, hO1, hcl, hWs, hall, hf⟩⟩
  refine st1 _ ?_
  show Steps p.tables e below (T1.setTop { method := m, pc := pc + 3, locals := ls, stack := .ref T.heap.size :: rest, locked := none }) _
  jvm_step X₁.here [X₁.here.top, hexec, d3', Value.category]
  exact X₁.ldcStringW hexec (own := own) (text := text) (index := is) (a := sa) hown' hstr'.1 hstr'.2
    (g := { method := m, pc := pc + 4, locals := ls, stack := .ref T.heap.size :: .ref T.heap.size :: rest, locked := none }) rfl d4' _ hsteps
end Ends2
def bn_th (own : String) (ic ik : Nat) : Prop := (∀ w ∈ (bn_all own ic).filter vx_no, w ∈ lw_tbl) ∧ (∀ w ∈ (bn_all own ic).filter vx_no, goodWord w = true ∨ w = .castable bn_X bn_X ∨ ∃ y ∈ bc_decl, w = .declares y) ∧ (∀ w ∈ Cond.classLink own ik bn_X :: Cond.initialized bn_X :: (bn_all own ic).filter vx_no, vx_ot w = true) ∧ bn_X ∈ bc_casts ∧ Cond.classLink own ik bn_X ∈ bc_wd ∧ Cond.initialized bn_X ∈ bc_wd
section THROW2
variable {G : bc_G} {own : String} {cc : ByteArray} {mL : Nat} {rt : Option FieldType} {d N u pc pc' : Nat} {L : List (Option Value)} {st : List Value} {M : bc_M} {post : bc_R → bc_M → Prop}
theorem bn_at {ic ik : Nat} {args : Array Value} {s : State} (h : bn_th own ic ik) (hts : ∀ w ∈ bc_wd, w.before args s = true) (hS : bc_S G s) : ∀ w ∈ (bn_all own ic).filter vx_no, w.before args s = true := by
  intro w hw
  rcases h.2.1 w hw with g | g | ⟨y, hy, g⟩
  · exact hts w (List.mem_filter.mpr ⟨h.1 w hw, g⟩)
  · rw [g]
    exact va_Nw.use rfl (hS.2.2.2.2.1 bn_X h.2.2.2.1)
  · rw [g]
    exact va_Nw.use rfl (hS.2.2.2.2.2.2 y hy)
theorem bc_throwN {ic ik is ti : Nat} {tx : String} {p3 p4 p6 p9 p10 : Nat} (h : bn_th own ic ik) (hs : (own, is, tx, ti) ∈ bc_strs) (d0 : bc_d cc pc (.new ik) 3 p3) (d3 : bc_d cc p3 .dup 1 p4) (d4 : bc_d cc p4 (.ldc_w is) 3 p6) (d6 : bc_d cc p6 (.invokespecial ic) 3 p9) (d9 : bc_d cc p9 .athrow 1 p10) (K : post (.inl "java/util/NoSuchElementException") M) (hd : 6 ≤ d := by decide) (hu : u + 1 ≤ N := by decide) (hst : Nat.ble ((st.map fun v => v.category).sum) 8 = true := by rfl) : bc_W G own cc mL rt d N u pc L st M post := by
  intro p e s m args below meth c H locs ls C hl hH hS
  obtain ⟨d0, rfl⟩ := d0
  obtain ⟨d3, rfl⟩ := d3
  obtain ⟨d4, rfl⟩ := d4
  obtain ⟨d6, rfl⟩ := d6
  obtain ⟨d9, -⟩ := d9
  have hts := C.2.2.2.2.2.1
  have hSS := C.2.2.2.2.2.2.2.2.1
  have hO := C.2.2.2.2.2.2.2.2.2.2
  have hst := Nat.le_of_ble_eq_true hst
  exact bn_throw C.1 C.2.1 C.2.2.2.2.2.2.2.2.2.1.1 C.2.2.2.2.1 (hts _ h.2.2.2.2.1) (hts _ h.2.2.2.2.2) (hSS.2.2.2.1.2.1 _ hs) (bn_at h hts hSS) h.2.2.1 (bc_Zold hO hSS.2.2.1.1) (bc_Zold hO hSS.2.2.1.2) hS (hl.1.trans C.2.2.2.1.symm) d0 d3 d4 d6 d9 (fun x hx => (C.2.2.2.2.2.2.2.1 x hx).elim)
    (by show 5 < d; omega) (by show _ + (13 * 3 + 43) ≤ 64 * d; omega) (by show u + 1 ≤ N; exact hu) (by show 8 * u + 6 ≤ 8 * N; omega) C.2.2.2.2.2.2.1
    (fun t _ hz hq => ⟨⟨M, K, bc_H_more hH hz hq⟩, Nat.le_trans hS.1 hz, fun q h1 h2 => (hq q (Nat.lt_of_lt_of_le h1 hS.1)).trans (hS.2.1 q h1 h2)⟩) hS.2.2 hu (by omega)
end THROW2
set_option maxRecDepth 100000 in
theorem th_NSE : bn_th RX8 350 346 := ⟨by decide +kernel, by decide +kernel, by decide +kernel, by decide +kernel, by decide +kernel, by decide +kernel⟩
