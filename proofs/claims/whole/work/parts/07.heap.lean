/-! HEAP, ENTRY, CALLS -/
section HEAP
variable {G : bc_G} {own : String} {cc : ByteArray} {mL : Nat} {rt : Option FieldType} {d N u pc pc' : Nat} {L : List (Option Value)} {st : List Value} {M : bc_M} {post : bc_R → bc_M → Prop}
theorem bc_one {D : va_G} {q : Nat × va_E} {H : Heap} (h : va_at D bc_cl q H) : va_P D bc_cl [q] H := fun k x hx => by
  cases k with
  | zero => simp at hx; subst hx; exact h
  | succ k => simp at hx
theorem bc_tyAt (hok : bc_ok G) (t : Nat) {ty : FieldType} (h : (bc_tl G)[t]? = some (bc_ty G t, ty)) : G.2.2.1[t]? = some (bc_ty G t, ty) := by
  rw [hok.2.1]; exact h
theorem bc_get {k f : Nat} {j : Int} {idx ci Nn : Nat} {C : String} {T : u_T} {v : Value} {fs : List Value} (hd : bc_d cc pc (.getfield idx) 3 pc') (hc : bc_cl[ci]? = some (C, T, Nn)) (hin : ∀ w ∈ u_ws C T Nn, w ∈ bc_wd) (hf : f < Nn) (hw : Cond.fieldLink own idx (T f).1 (T f).2.1 (T f).2.2.1 ∈ bc_wd)
    (he : bc_e G k j (M k j) = .inr (ci, fs)) (hv : fs[f]? = some v) (hj : 0 ≤ j ∧ j < bc_n k) (K : bc_W G own cc mL rt d N u pc' L (v :: st) M post) : bc_W G own cc mL rt d N u pc L (vR G k j :: st) M post := by
  intro p e s m args below meth c H locs ls C hl hH hS
  obtain ⟨hd, rfl⟩ := hd
  have ha := hH.2 k j hj.1 hj.2
  rw [he] at ha
  exact va_get (ref := (T f).1) C.1 C.2.1 C.2.2.2.2.2.1 hin C.2.2.2.2.1 C.2.2.2.2.2.2.2.2.1.1 (bc_one ha) 0 rfl hc f hf (C.2.2.2.2.2.1 _ hw) (fun x h => h) hv hd (K p e s m args below meth c H locs ls C hl hH hS)
/-- the world behind one changed cell -/
theorem bc_H_put {k : Nat} {j f x : Int} {H H' : Heap} (hok : bc_ok G) (hH : bc_H G M H) (hj : 0 ≤ j ∧ j < bc_n k) (z : H'.size = H.size) (oq : ∀ q : Nat, q ≠ G.2.2.2.1 k j → H'[q]? = H[q]?) (h : va_at G.2.1 bc_cl (G.2.2.2.1 k j, bc_e G k j (bc_u (M k j) f x)) H') : bc_H G (bc_up M k j f x) H' := by
  refine ⟨⟨by rw [z]; exact hH.1.1, fun q hq => ?_⟩, fun k' j' h0 h1 => ?_⟩
  · rw [oq q (fun e => by have := hok.2.2.1 k j hj.1 hj.2; omega)]
    exact hH.1.2 q hq
  · by_cases he : k' = k ∧ j' = j
    · obtain ⟨rfl, rfl⟩ := he
      simp only [bc_up, and_self, if_true]
      exact h
    · have h2 := hH.2 k' j' h0 h1
      have h3 : bc_up M k j f x k' j' = M k' j' := by simp only [bc_up, if_neg he]
      rw [h3]
      exact h2.kept (oq _ (fun e => he (hok.2.2.2 k' k j' j h0 h1 hj.1 hj.2 e)))
theorem bc_put {k f : Nat} {j x : Int} {idx ci Nn : Nat} {C : String} {T : u_T} {v : Value} {fs : List Value} {ty0 : Nat → FieldType} (hd : bc_d cc pc (.putfield idx) 3 pc') (hc : bc_cl[ci]? = some (C, T, Nn)) (hin : ∀ w ∈ u_ws C T Nn, w ∈ bc_wd) (hty : ∀ k, k < Nn → parseFieldDescriptor (T k).2.2.1 = some (ty0 k)) (hnm : ∀ a, a < Nn → ∀ b, b < Nn → a ≠ b → (T a).2.1 ≠ (T b).2.1) (hf : f < Nn) (hfin : (T f).2.2.2 = false) (hw : Cond.fieldLink own idx (T f).1 (T f).2.1 (T f).2.2.1 ∈ bc_wd)
    (he : bc_e G k j (M k j) = .inr (ci, fs)) (he2 : bc_e G k j (bc_u (M k j) (f : Int) x) = .inr (ci, fs.set f v)) (hl0 : f < fs.length) (hn : narrow (ty0 f) v = v) (hfit : fits (ty0 f) v = true) (hj : 0 ≤ j ∧ j < bc_n k) (K : bc_W G own cc mL rt d N u pc' L st (bc_up M k j (f : Int) x) post) : bc_W G own cc mL rt d N u pc L (v :: vR G k j :: st) M post := by
  intro p e s m args below meth c H locs ls C hl hH hS
  obtain ⟨hd, rfl⟩ := hd
  have hts := C.2.2.2.2.2.1
  have hK := C.2.2.2.2.2.2.2.2.1.1
  have hok := C.2.2.2.2.2.2.2.2.2.1
  have ha := hH.2 k j hj.1 hj.2
  rw [he] at ha
  have hap := va_apart (own := own) hts hin ty0 hty hnm hK hc
  obtain ⟨r, h1, cell, q1, q2, q3, q4⟩ := ha
  have hr : r = _ := Option.some.inj (h1.symm.trans hc)
  subst hr
  obtain ⟨hSl, hfc, kC, hkC, hkind⟩ := hK.1 ci _ hc
  obtain ⟨cf, kf, fi, fd, hi, hsl⟩ := hSl f hf
  have hlay := hts _ (hin _ (u_in_lay hf))
  unfold u_lay at hlay
  rw [if_neg (by rw [hfin]; decide)] at hlay
  have hst := (u_facts hfc hkC (u_lays hts hin hf) hi).1
  have h6 := u_store hfc hkC hkind hlay hi (hty f hf) hn hfit
  refine W.putK C.1 C.2.1 (f := fd) ⟨C.2.2.2.2.1, hts _ hw, ⟨_, _, _, hi⟩, hst⟩ (by rw [q2]; exact h6) q1 q3 (by rw [hsl]; exact k2_hasslot (q4 f hf)) rfl rfl hd fun H' e1 e2 e3 => ?_
  rw [hsl] at e1 ⊢
  refine K p e s m args below meth c H' _ ls C hl (bc_H_put hok hH hj e2 e3 ?_) (hS.put e2 e3 (hok.2.2.1 k j hj.1 hj.2))
  rw [he2]
  exact ⟨_, hc, t_OB.to (V := updV (vp_V fs) f v) ⟨_, e1, q2, q3, t_set q4 hap hf v⟩ (fun j _ => vp_updV_set hl0 v j)⟩
theorem bc_iald {k n : Nat} {j i : Int} (hd : bc_d cc pc .iaload 1 pc') (he : ∀ g : Int → Int, bc_e G k j g = .inl (bc_ty G 0, n, .inl (fun q => Int32.ofInt (g (q : Int))))) (hn : (n : Int) < 2147483648) (hj : 0 ≤ j ∧ j < bc_n k) (hi : 0 ≤ i ∧ i < (n : Int)) (K : bc_W G own cc mL rt d N u pc' L (vI (M k j i) :: st) M post) : bc_W G own cc mL rt d N u pc L (vI i :: vR G k j :: st) M post := by
  intro p e s m args below meth c H locs ls C hl hH hS
  obtain ⟨hd, rfl⟩ := hd
  have ha := hH.2 k j hj.1 hj.2
  rw [he] at ha
  refine va_iald C.1 C.2.1 C.2.2.2.2.2.2.2.2.1.1 (bc_one ha) 0 0 rfl (bc_tyAt C.2.2.2.2.2.2.2.2.2.1 0 rfl) (bc_in hi hn) hd ?_
  rw [bc_clamp hi.1 (by omega), Int.toNat_of_nonneg hi.1]
  exact K p e s m args below meth c H locs ls C hl hH hS
theorem bc_bald {k n : Nat} {j i : Int} (hd : bc_d cc pc .baload 1 pc') (he : ∀ g : Int → Int, bc_e G k j g = .inl (bc_ty G 1, n, .inl (fun q => Int32.ofInt (g (q : Int))))) (hn : (n : Int) < 2147483648) (hj : 0 ≤ j ∧ j < bc_n k) (hi : 0 ≤ i ∧ i < (n : Int)) (K : bc_W G own cc mL rt d N u pc' L (vI (M k j i) :: st) M post) : bc_W G own cc mL rt d N u pc L (vI i :: vR G k j :: st) M post := by
  intro p e s m args below meth c H locs ls C hl hH hS
  obtain ⟨hd, rfl⟩ := hd
  have ha := hH.2 k j hj.1 hj.2
  rw [he] at ha
  refine va_bald C.1 C.2.1 C.2.2.2.2.2.2.2.2.1.1 (bc_one ha) 0 1 rfl (bc_tyAt C.2.2.2.2.2.2.2.2.2.1 1 rfl) (bc_in hi hn) hd ?_
  rw [bc_clamp hi.1 (by omega), Int.toNat_of_nonneg hi.1]
  exact K p e s m args below meth c H locs ls C hl hH hS
theorem bc_aald {k n t : Nat} {j i : Int} {k' : Nat} {j' : Int} {ty : FieldType} {a : Nat → Option Nat} (hd : bc_d cc pc .aaload 1 pc') (he : ∀ g : Int → Int, bc_e G k j g = .inl (bc_ty G t, n, .inr (.inr (.inr (.inr a))))) (ha' : a i.toNat = some (G.2.2.2.1 k' j')) (hty : (bc_tl G)[t]? = some (bc_ty G t, ty)) (href : ty.isReference = true) (hn : (n : Int) < 2147483648) (hj : 0 ≤ j ∧ j < bc_n k) (hi : 0 ≤ i ∧ i < (n : Int)) (K : bc_W G own cc mL rt d N u pc' L (vR G k' j' :: st) M post) : bc_W G own cc mL rt d N u pc L (vI i :: vR G k j :: st) M post := by
  intro p e s m args below meth c H locs ls C hl hH hS
  obtain ⟨hd, rfl⟩ := hd
  have ha := hH.2 k j hj.1 hj.2
  rw [he] at ha
  have hlt : i.toNat < n := by omega
  refine W.aald (v := va_rf (a i.toNat)) C.1 C.2.1 ha ((C.2.2.2.2.2.2.2.2.1.1.2 t _ (bc_tyAt C.2.2.2.2.2.2.2.2.2.1 t hty)).1 n (fun q => va_rf (a q))) href (fun q => by cases q) (by show ¬ (_ ∨ (arrV _ _ _).slots.size ≤ _); rw [arrV_size]; exact bc_in hi hn) (by show (arrV _ _ _).slots[_]? = _; rw [bc_clamp hi.1 (by omega), arrV_read _ _ hlt]) rfl rfl hd ?_
  rw [ha']
  exact K p e s m args below meth c H locs ls C hl hH hS
theorem bc_lald {k n : Nat} {j i : Int} (hd : bc_d cc pc .laload 1 pc') (he : ∀ g : Int → Int, bc_e G k j g = .inl (bc_ty G 2, n, .inr (.inl (fun q => Int64.ofInt (g (q : Int)))))) (hn : (n : Int) < 2147483648) (hj : 0 ≤ j ∧ j < bc_n k) (hi : 0 ≤ i ∧ i < (n : Int)) (K : bc_W G own cc mL rt d N u pc' L (vJ (M k j i) :: st) M post) : bc_W G own cc mL rt d N u pc L (vI i :: vR G k j :: st) M post := by
  intro p e s m args below meth c H locs ls C hl hH hS
  obtain ⟨hd, rfl⟩ := hd
  have ha := hH.2 k j hj.1 hj.2
  rw [he] at ha
  refine va_lald C.1 C.2.1 C.2.2.2.2.2.2.2.2.1.1 (bc_one ha) 0 2 rfl (bc_tyAt C.2.2.2.2.2.2.2.2.2.1 2 rfl) (bc_in hi hn) hd ?_
  rw [bc_clamp hi.1 (by omega), Int.toNat_of_nonneg hi.1]
  exact K p e s m args below meth c H locs ls C hl hH hS
theorem bc_u_cast (g : Int → Int) (i x : Int) (hi : 0 ≤ i) : (fun q : Nat => Int32.ofInt (bc_u g i x (q : Int))) = upd (fun q : Nat => Int32.ofInt (g (q : Int))) i.toNat (Int32.ofInt x) := by
  funext q
  by_cases h : q = i.toNat
  · subst h
    simp [bc_u, upd, Int.toNat_of_nonneg hi]
  · have : ¬ (q : Int) = i := by omega
    simp [bc_u, upd, h, this]
theorem bc_iast {k n : Nat} {j i x : Int} (hd : bc_d cc pc .iastore 1 pc') (he : ∀ g : Int → Int, bc_e G k j g = .inl (bc_ty G 0, n, .inl (fun q => Int32.ofInt (g (q : Int))))) (hn : (n : Int) < 2147483648) (hj : 0 ≤ j ∧ j < bc_n k) (hi : 0 ≤ i ∧ i < (n : Int)) (K : bc_W G own cc mL rt d N u pc' L st (bc_up M k j i x) post) : bc_W G own cc mL rt d N u pc L (vI x :: vI i :: vR G k j :: st) M post := by
  intro p e s m args below meth c H locs ls C hl hH hS
  obtain ⟨hd, rfl⟩ := hd
  have hok := C.2.2.2.2.2.2.2.2.2.1
  have ha := hH.2 k j hj.1 hj.2
  rw [he] at ha
  refine W.iast C.1 C.2.1 ha ((C.2.2.2.2.2.2.2.2.1.1.2 0 _ (bc_tyAt hok 0 rfl)).1 n (fun q => .int (Int32.ofInt (M k j (q : Int))))) (fun q => by cases q) (by show ¬ (_ ∨ (arrV _ _ _).slots.size ≤ _); rw [arrV_size]; exact bc_in hi hn) rfl rfl hd fun H1 e z oq => ?_
  refine K p _ s m args below meth c H1 _ ls C hl (bc_H_put hok hH hj z oq ?_) (hS.put z oq (hok.2.2.1 k j hj.1 hj.2))
  rw [he, bc_u_cast _ _ _ hi.1]
  show H1[_]? = some (vp_cell _ _)
  rw [e, bc_clamp hi.1 (by omega)]
  rw [vp_cell_i, vp_cell_i, arrV_store]
  congr 2
  funext q
  by_cases hq : q = i.toNat
  · subst hq
    simp [updV, upd]
  · simp [updV, upd, hq]
theorem bc_bast {k n : Nat} {j i x : Int} (hd : bc_d cc pc .bastore 1 pc') (he : ∀ g : Int → Int, bc_e G k j g = .inl (bc_ty G 1, n, .inl (fun q => Int32.ofInt (g (q : Int))))) (hn : (n : Int) < 2147483648) (hj : 0 ≤ j ∧ j < bc_n k) (hi : 0 ≤ i ∧ i < (n : Int)) (hx : narrow .byte (.int (Int32.ofInt x)) = .int (Int32.ofInt x)) (K : bc_W G own cc mL rt d N u pc' L st (bc_up M k j i x) post) : bc_W G own cc mL rt d N u pc L (vI x :: vI i :: vR G k j :: st) M post := by
  intro p e s m args below meth c H locs ls C hl hH hS
  obtain ⟨hd, rfl⟩ := hd
  have hok := C.2.2.2.2.2.2.2.2.2.1
  have ha := hH.2 k j hj.1 hj.2
  rw [he] at ha
  refine W.bast C.1 C.2.1 ha ((C.2.2.2.2.2.2.2.2.1.1.2 1 _ (bc_tyAt hok 1 rfl)).1 n (fun q => .int (Int32.ofInt (M k j (q : Int))))) (fun q => by cases q) (by show ¬ (_ ∨ (arrV _ _ _).slots.size ≤ _); rw [arrV_size]; exact bc_in hi hn) rfl rfl hd fun H1 e z oq => ?_
  refine K p _ s m args below meth c H1 _ ls C hl (bc_H_put hok hH hj z oq ?_) (hS.put z oq (hok.2.2.1 k j hj.1 hj.2))
  rw [he, bc_u_cast _ _ _ hi.1]
  show H1[_]? = some (vp_cell _ _)
  rw [e, bc_clamp hi.1 (by omega), hx]
  rw [vp_cell_i, vp_cell_i, arrV_store]
  congr 2
  funext q
  by_cases hq : q = i.toNat
  · subst hq
    simp [updV, upd]
  · simp [updV, upd, hq]
theorem bc_last {k n : Nat} {j i x : Int} (hd : bc_d cc pc .lastore 1 pc') (he : ∀ g : Int → Int, bc_e G k j g = .inl (bc_ty G 2, n, .inr (.inl (fun q => Int64.ofInt (g (q : Int)))))) (hn : (n : Int) < 2147483648) (hj : 0 ≤ j ∧ j < bc_n k) (hi : 0 ≤ i ∧ i < (n : Int)) (K : bc_W G own cc mL rt d N u pc' L st (bc_up M k j i x) post) : bc_W G own cc mL rt d N u pc L (vJ x :: vI i :: vR G k j :: st) M post := by
  intro p e s m args below meth c H locs ls C hl hH hS
  obtain ⟨hd, rfl⟩ := hd
  have hok := C.2.2.2.2.2.2.2.2.2.1
  have ha := hH.2 k j hj.1 hj.2
  rw [he] at ha
  refine W.last C.1 C.2.1 ha ((C.2.2.2.2.2.2.2.2.1.1.2 2 _ (bc_tyAt hok 2 rfl)).1 n (fun q => .long (Int64.ofInt (M k j (q : Int))))) (fun q => by cases q) (by show ¬ (_ ∨ (arrV _ _ _).slots.size ≤ _); rw [arrV_size]; exact bc_in hi hn) rfl rfl hd fun H1 e z oq => ?_
  refine K p _ s m args below meth c H1 _ ls C hl (bc_H_put hok hH hj z oq ?_) (hS.put z oq (hok.2.2.1 k j hj.1 hj.2))
  rw [he]
  show H1[_]? = some (vp_cell _ _)
  rw [e, bc_clamp hi.1 (by omega)]
  rw [vp_cell_l, vp_cell_l, arrV_store]
  congr 2
  funext q
  by_cases hq : q = i.toNat
  · subst hq
    simp [updV, bc_u, Int.toNat_of_nonneg hi.1]
  · have : ¬ (q : Int) = i := by omega
    simp [updV, bc_u, hq, this]
/-- a method's entry -/
theorem bc_enter {y : MethodName} {yc : ByteArray} {yL : Nat} {yr : Option FieldType} {as : List Value} (hy : plainName y.cls = true) (hL : bc_prs 0 L = lv_args 0 as) (hlen : Nat.ble (lg_sl as).length yL = true) (K : bc_W G y.cls yc yL yr d N 0 0 L [] M post) : bc_Call G y yc yL yr d N as M post := by
  intro ok
  refine vx_ofW (cc := yc) (maxL := yL) (ret := yr) hy rfl ?_
  intro p e s m args below meth c s₁ B hml hx0 hv
  obtain ⟨rfl, hH, hSS⟩ := hv
  have hl := lv_entry as (n := yL) (Nat.le_of_ble_eq_true hlen)
  rw [lg_entry_eq]
  have hts := atoms_spec (ws := Cond.code y yc yL yr :: bc_wd) B.pre
  exact K p e s m _ below meth c s.heap [] _ ⟨B.exec, B.bytes, B.returns, hml, findClass_of_methodNamed B.named, fun w hw => hts w (List.mem_cons_of_mem _ hw), B.notSynchronized, hx0, hSS, ok, hH.1⟩ (by rw [hL]; exact hl) hH va_S.rf
/-- behind a call: its answer on the stack, or its exception on its way out -/
def bc_k (G : bc_G) (own : String) (cc : ByteArray) (mL : Nat) (rt : Option FieldType) (d N u : Nat) (pc : Nat) (L : List (Option Value)) (st : List Value) (post : bc_R → bc_M → Prop) : bc_R → bc_M → Prop := fun r M' => match r with
  | .inl E => post (.inl E) M'
  | .inr none => bc_W G own cc mL rt d N u pc L st M' post
  | .inr (some v) => bc_W G own cc mL rt d N u pc L (v :: st) M' post
theorem bc_blind {as : List Value} : FrameBlind (va_Pc as (fun U => bc_H G M U.heap ∧ bc_S G U)) := fun a U g mk q => by
  obtain ⟨q0, qH, qS⟩ := q
  exact ⟨q0, qH, qS.call g mk a⟩
theorem bc_ran {p : Program} {e : Env} {s : State} {m : MethodId} {args : Array Value} {below : List Frame} {meth : Method} {c : Code} {H : Heap} {locs : List Loc} {ls : Array Slot} {N' : Nat} {st0 : List Value} {a : Array Value}
    (C : bc_C G own cc mL rt p s m args meth c) (hl : lv_has ls mL (bc_prs 0 L)) (hS : va_S (bc_A G) s.heap H locs) (hN : u + N' ≤ N)
    (hr : vx_Run p G.1 e (bc_rm d N) s m args below meth c H locs u (8 * u) N' (8 * N') (F0 m pc ls st0) st (bc_Q G (bc_k G own cc mL rt d N (u + N') (pc + 3) L st post) a) (bc_X G (bc_k G own cc mL rt d N (u + N') (pc + 3) L st post)) (bc_A G)) :
    W p G.1 e (bc_rm d N) s m args below meth c H locs u (8 * u) (vx_MQ below (bc_Q G post) (bc_X G post) args s N (8 * N) (bc_A G)) (F0 m pc ls st0) := by
  intro T hT X
  rcases hr T hT X with ⟨v, st₀, t, T', L1, h0, X', hL1, e1, e2, ⟨⟨v', M', hv, hp, hH'⟩, hF⟩, stp⟩ | ⟨q, st₀, t, T', L1, E, ce, h0, X', hL1, e1, e2, ⟨⟨M', hp, hH'⟩, hF⟩, hce, hcv, hcl, stp⟩
  · cases hv
    obtain ⟨k1, k2, k3⟩ := vx_keep h0 e1 hS (fun q _ h => h) (fun q h => h) hL1 hF
    rw [← Nat.mul_add] at X'
    have hH1 : bc_H G M' T'.heap := by rw [e1]; exact hH'
    cases v with
    | none =>
      obtain ⟨t2, a1, b1⟩ := hp p e s m args below meth c T'.heap (locs ++ L1) ls C hl hH1 k3 T' rfl X'
      exact ⟨t2, stp t2 a1, b1⟩
    | some v =>
      obtain ⟨t2, a1, b1⟩ := hp p e s m args below meth c T'.heap (locs ++ L1) ls C hl hH1 k3 T' rfl X'
      exact ⟨t2, stp t2 a1, b1⟩
  · obtain ⟨k1, k2, k3⟩ := vx_keep h0 e1 hS (fun q _ h => h) (fun q h => h) hL1 hF
    rw [← Nat.mul_add] at X'
    have hH1 : bc_H G M' T'.heap := by rw [e1]; exact hH'
    obtain ⟨t2, a1, b1⟩ := vx_out (p := p) (l := G.1) (e := e) (R := bc_rm d N) (below := below) (Qc := bc_Q G post) (XC := bc_X G post) (free := bc_A G) (mc := N) (ms := 8 * N) (pc := pc) (ls := ls) (rest := st) (args := args) (fun x hx => (C.2.2.2.2.2.2.2.1 x hx).elim) C.2.2.2.2.2.2.1 (by rw [e1]; exact hce) hcv hcl (fun t ht _ => ⟨⟨M', hp, by rw [ht]; exact hH1⟩, k3.F ht⟩) k3.2.2 hN (Nat.mul_le_mul_left 8 hN) T' rfl X'
    exact ⟨t2, stp.trans a1, b1⟩
theorem bc_callV {k ci Nn : Nat} {j : Int} {idx d' N' n : Nat} {y : MethodName} {yc : ByteArray} {yL : Nat} {yr : Option FieldType} {Cn : String} {T : u_T} {fs : List Value} {As : List Value} (hd : bc_d cc pc (.invokevirtual idx) 3 pc') (w1 : Cond.methodLink own idx y ∈ bc_wd) (w2 : Cond.instanceMethod y ∈ bc_wd) (w3 : Cond.selects Cn y y ∈ bc_wd) (w4 : Cond.initialized Cn ∈ bc_wd) (w5 : Cond.code y yc yL yr ∈ bc_wd)
    (hy : y.cls = Cn ∧ y.cls ≠ "java/lang/invoke/MethodHandle" ∧ y.cls ≠ "java/lang/invoke/VarHandle" ∧ (parseMethodDescriptor y.desc).map (fun d => d.parameters.length) = some n) (hc : bc_cl[ci]? = some (Cn, T, Nn)) (he : bc_e G k j (M k j) = .inr (ci, fs)) (hj : 0 ≤ j ∧ j < bc_n k) (hn : As.length = n) (hyL : yL ≤ 45) (hdd : d' + 1 ≤ d) (hN : u + N' ≤ N) (hst : Nat.ble ((st.map fun v => v.category).sum) 8 = true)
    (h : bc_Call G y yc yL yr d' N' (vR G k j :: As) M (bc_k G own cc mL rt d N (u + N') pc' L st post)) : bc_W G own cc mL rt d N u pc L (As.reverse ++ vR G k j :: st) M post := by
  intro p e s m args below meth c H locs ls C hl hH hS
  obtain ⟨hd, rfl⟩ := hd
  have hts := C.2.2.2.2.2.1
  have hSS := C.2.2.2.2.2.2.2.2.1
  have ha := hH.2 k j hj.1 hj.2
  rw [he] at ha
  have hG : GoodIn bc_wd (wsV own idx Cn y (Cond.code y yc yL yr :: bc_wd)) := by
    unfold wsV
    intro w hw
    rcases List.mem_append.mp hw with hw | hw
    · have : w ∈ bc_wd := by
        simp only [List.mem_cons, List.not_mem_nil, or_false] at hw
        rcases hw with rfl | rfl | rfl | rfl
        · exact w1
        · exact w2
        · exact w3
        · exact w4
      exact ⟨this, bc_isgood this⟩
    · exact bc_goodIn w5 w hw
  refine bc_ran C hl hS hN (vx_runV (As := As) (rest := st) (n := n) (rm := bc_rm d' N') ⟨C.1, C.2.1, C.2.2.2.1, C.2.2.2.2.1, hts⟩ (h C.2.2.2.2.2.2.2.2.2.1) (cwV n hts hG rfl rfl rfl hy ⟨hdd, by show 8 + (yL + 11) + 64 * d' ≤ 64 * d; omega⟩) ⟨bc_blind, va_recv hSS.1 (bc_one ha) (q0 := 0) hc rfl, fun U hU hW => ⟨rfl, by rw [hU]; exact hH, hSS.warm hW⟩⟩ rfl hn hl.1 rfl (lv_room (Nat.le_of_ble_eq_true hst)) hd ⟨hN, by show 8 * u + 8 * N' ≤ 8 * N; omega⟩)
theorem bc_callS {idx d' N' n : Nat} {y : MethodName} {yc : ByteArray} {yL : Nat} {yr : Option FieldType} {As : List Value} (hd : bc_d cc pc (.invokestatic idx) 3 pc') (w1 : Cond.methodLink own idx y ∈ bc_wd) (w2 : Cond.static y ∈ bc_wd) (w4 : Cond.initialized y.cls ∈ bc_wd) (w5 : Cond.code y yc yL yr ∈ bc_wd)
    (hy : y.cls ≠ "java/lang/invoke/MethodHandle" ∧ y.cls ≠ "java/lang/invoke/VarHandle" ∧ (parseMethodDescriptor y.desc).map (fun d => d.parameters.length) = some n) (hn : As.length = n) (hyL : yL ≤ 45) (hdd : d' + 1 ≤ d) (hN : u + N' ≤ N) (hst : Nat.ble ((st.map fun v => v.category).sum) 8 = true)
    (h : bc_Call G y yc yL yr d' N' As M (bc_k G own cc mL rt d N (u + N') pc' L st post)) : bc_W G own cc mL rt d N u pc L (As.reverse ++ st) M post := by
  intro p e s m args below meth c H locs ls C hl hH hS
  obtain ⟨hd, rfl⟩ := hd
  have hts := C.2.2.2.2.2.1
  have hSS := C.2.2.2.2.2.2.2.2.1
  refine bc_ran C hl hS hN (vx_runS (As := As) (rest := st) (n := n) (rm := bc_rm d' N') ⟨C.1, C.2.1, C.2.2.2.1, C.2.2.2.2.1, hts⟩ (h C.2.2.2.2.2.2.2.2.2.1) ⟨callB_of n hts (bc_goodIn w5) rfl rfl rfl (hts _ w4) (hts _ w1) hy ⟨hdd, by show 8 + (yL + 11) + 64 * d' ≤ 64 * d; omega⟩, hts _ w2⟩ ⟨bc_blind, fun U hU hW => ⟨rfl, by rw [hU]; exact hH, hSS.warm hW⟩⟩ rfl hn hl.1 rfl (lv_room (Nat.le_of_ble_eq_true hst)) hd ⟨hN, by show 8 * u + 8 * N' ≤ 8 * N; omega⟩)
theorem bc_callSN {idx d' N' n : Nat} {host : String} {y : MethodName} {yc : ByteArray} {yL : Nat} {yr : Option FieldType} {As : List Value} (hd : bc_d cc pc (.invokestatic idx) 3 pc') (w1 : Cond.methodLinkNest own idx y host ∈ bc_nest) (w2 : Cond.static y ∈ bc_wd) (w4 : Cond.initialized y.cls ∈ bc_wd) (w5 : Cond.code y yc yL yr ∈ bc_wd)
    (hy : y.cls ≠ "java/lang/invoke/MethodHandle" ∧ y.cls ≠ "java/lang/invoke/VarHandle" ∧ (parseMethodDescriptor y.desc).map (fun d => d.parameters.length) = some n) (hn : As.length = n) (hyL : yL ≤ 45) (hdd : d' + 1 ≤ d) (hN : u + N' ≤ N) (hst : Nat.ble ((st.map fun v => v.category).sum) 8 = true)
    (h : bc_Call G y yc yL yr d' N' As M (bc_k G own cc mL rt d N (u + N') pc' L st post)) : bc_W G own cc mL rt d N u pc L (As.reverse ++ st) M post := by
  intro p e s m args below meth c H locs ls C hl hH hS
  obtain ⟨hd, rfl⟩ := hd
  have hts := C.2.2.2.2.2.1
  have hSS := C.2.2.2.2.2.2.2.2.1
  refine bc_ran C hl hS hN (vx_runSN (As := As) (rest := st) (n := n) (host := host) (rm := bc_rm d' N') ⟨C.1, C.2.1, C.2.2.2.1, C.2.2.2.2.1, hts⟩ (h C.2.2.2.2.2.2.2.2.2.1) ⟨va_cnB n hts (bc_goodIn w5) rfl rfl rfl (hSS.2.1 _ w1) (hts _ w4) hy ⟨hdd, by show 8 + (yL + 11) + 64 * d' ≤ 64 * d; omega⟩, hts _ w2, trivial⟩ ⟨bc_blind, fun U hU hW => ⟨rfl, by rw [hU]; exact hH, hSS.warm hW⟩⟩ rfl hn hl.1 rfl (lv_room (Nat.le_of_ble_eq_true hst)) hd ⟨hN, by show 8 * u + 8 * N' ≤ 8 * N; omega⟩)
end HEAP
