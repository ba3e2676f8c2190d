/-! construction: shorter rows -/
section KR2
variable {G : bc_G} {own : String} {cc : ByteArray} {mL : Nat} {rt : Option FieldType} {R : Room} {T : bg_T} {Qf : bg_E} {u v pc pc' : Nat} {L : List (Option Value)} {st : List Value}
theorem wk_put1 {n : Int} {Cb : bz_C} {k f : Nat} {j : Int} {idx ci Nn : Nat} {Cn : String} {T0 : u_T} {w : Value} {fs : List Value} {ty0 : Nat → FieldType} (hd : bc_d cc pc (.putfield idx) 3 pc') (hc : bc_cl[ci]? = some (Cn, T0, Nn)) (hin : ∀ w ∈ u_ws Cn T0 Nn, w ∈ bc_wd) (hty : ∀ k, k < Nn → parseFieldDescriptor (T0 k).2.2.1 = some (ty0 k)) (hnm : ∀ a, a < Nn → ∀ b, b < Nn → a ≠ b → (T0 a).2.1 ≠ (T0 b).2.1) (hf : f < Nn) (hw : Cond.fieldLink own idx (T0 f).1 (T0 f).2.1 (T0 f).2.2.1 ∈ bc_wd) (hdecl : (T0 f).1 = own) (hl0 : f < fs.length) (hn : narrow (ty0 f) w = w) (hfit : fits (ty0 f) w = true) (hj : 0 ≤ j ∧ j < bc_n k) (ho : bz_off k j < n)
    (K : bk_W G own cc mL rt R (bz_T G) Qf u v pc' L st (bz_H G n (cu Cb k j (.inr (ci, fs.set f w))))) : bk_W G own cc mL rt R (bz_T G) Qf u v pc L (w :: vR G k j :: st) (bz_H G n (cu Cb k j (.inr (ci, fs)))) := by
  refine wk_put hd hc hin hty hnm hf hw hdecl cu_at hl0 hn hfit hj ho ?_
  rw [cu_cu]
  exact K
/-- an int array as the first memory has it -/
theorem wk_newi {n : Int} {C : bz_C} {k : Nat} {j : Int} {N' : Nat} {x : Int} (hA : bz_ad G) (hd : bc_d cc pc (.newarray .int) 2 pc') (hP : C k j = bz_C0 G k j) (he : bz_C0 G k j = .inl (bc_ty G 0, N', .inl (fun _ => (0 : Int32)))) (hx : x = (N' : Int)) (hb2 : N' * 4 ≤ 536870912) (hj : 0 ≤ j ∧ j < bc_n k) (ho : bz_off k j = n) (hN : u + 1 ≤ R.cells ∧ v + N' ≤ R.slots)
    (K : bk_W G own cc mL rt R T Qf (u + 1) (v + N') pc' L (vR G k j :: st) (bz_H G (n + 1) C)) : bk_W G own cc mL rt R T Qf u v pc L (vI x :: st) (bz_H G n C) :=
  wk_newa (t := 0) (a1 := .inl (fun _ => (0 : Int32))) hA hd mw_232 rfl rfl (fun _ _ h => h) (hP.trans he) (fun _ => rfl) hx hb2 (by omega) hj ho hN K
theorem wk_O {n : Int} {C : bz_C} : ∀ H, bz_H G n C H → bc_O G H := fun _ h => h.1
theorem wk_T {p : Program} {s : State} {m : MethodId} {args : Array Value} {meth : Method} {c : Code} (h : bz_T G p s m args meth c) : bz_S G s := h.2
theorem bz_H_n {n m : Int} {C : bz_C} {H : Heap} (h : bz_H G n C H) (e : n = m) : bz_H G m C H := e ▸ h
end KR2
theorem arrV_same {cI : ClassId} {N : Nat} {f g : Nat → Value} (h : ∀ q, q < N → f q = g q) : arrV cI N f = arrV cI N g := by
  unfold arrV
  congr 2
  funext q
  exact h q.val q.isLt
theorem wk_multi {G : bc_G} {own : String} {cc : ByteArray} {mL : Nat} {rt : Option FieldType} {R : Room} {Qf : bg_E} {u v pc pc' : Nat} {L : List (Option Value)} {st : List Value} {n : Int} {C : bz_C} {j : Int} {idx : Nat} (hA : bz_ad G) (hd : bc_d cc pc (.multianewarray idx 2) 4 pc') (w1 : Cond.classLink own idx "[[I" ∈ bc_wd) (hP : C 20 j = bz_C0 G 20 j) (hP1 : ∀ q, 0 ≤ q → q < 16 → C 21 (16 * j + q) = bz_C0 G 21 (16 * j + q)) (hj : 0 ≤ j ∧ j < 2) (ho : zP j + 3 = n) (hN : u + 17 ≤ R.cells ∧ v + 112 ≤ R.slots)
    (K : bk_W G own cc mL rt R (bz_T G) Qf (u + 17) (v + 112) pc' L (vR G 20 j :: st) (bz_H G (n + 17) C)) : bk_W G own cc mL rt R (bz_T G) Qf u v pc L (vI 6 :: vI 16 :: st) (bz_H G n C) := by
  intro p e s m args below meth c H locs ls C0 hl hH hS
  obtain ⟨hd, rfl⟩ := hd
  have hts := C0.2.2.2.2.2.1
  have hok := C0.2.2.2.2.2.2.2.2.2.1
  have hSS := C0.2.2.2.2.2.2.2.1.2
  have n16 : (Int32.ofInt 16).toNatClampNeg = 16 := by rw [bc_clamp (by omega) (by omega)]; rfl
  have n6 : (Int32.ofInt 6).toNatClampNeg = 6 := by rw [bc_clamp (by omega) (by omega)]; rfl
  intro T hT X
  obtain ⟨vm₁, cA, comp, L1, hfA, hfC, hL1, X1, step⟩ := mz_step (N := 16) (M := 6) X C0.1 (own := own) (idx := idx) C0.2.2.2.2.1 (hts _ w1) hSS.2.2.2 (hts _ mw_232) (g := F0 m pc ls (vI 6 :: vI 16 :: st)) rfl (by rw [C0.2.1]; exact hd) (n := Int32.ofInt 16) (k := Int32.ofInt 6) (rest := st) rfl (by decide) (by decide) n16 n6 (by decide) (by decide) (by omega) (by omega)
  obtain ⟨f1, f2, f3, f4⟩ := mz_facts (S := T.setVm vm₁) (cO := cA) (cI := comp) (N := 16) (M := 6) 16
  have hTh : (T.setVm vm₁).heap = H := hT
  have hsT : T.heap.size = H.size := by rw [hT]
  rw [hTh] at f1 f2 f3 f4
  rw [hsT] at step hL1
  rw [show u + 1 + 16 = u + 17 by omega, show v + 16 + 6 * 16 = v + 112 by omega] at X1
  generalize mz_s (T.setVm vm₁) cA comp 16 6 16 = S1 at X1 step f1 f2 f3 f4
  have hsize := hH.2.1
  have had : H.size = G.2.2.2.1 20 j := by
    have a1 := hA 20 j hj.1 hj.2
    have : bz_off 20 j = zP j + 3 := rfl
    omega
  have had1 : ∀ q : Nat, q < 16 → H.size + 1 + q = G.2.2.2.1 21 (16 * j + (q : Int)) := fun q hq => by
    have a1 := hA 21 (16 * j + (q : Int)) (by omega) (by show _ < (32 : Int); omega)
    have e1 : bz_off 21 (16 * j + (q : Int)) = zP ((16 * j + (q : Int)) / 16) + 4 + (16 * j + (q : Int)) % 16 := rfl
    have e2 : (16 * j + (q : Int)) / 16 = j := by omega
    have e3 : (16 * j + (q : Int)) % 16 = (q : Int) := by omega
    rw [e1, e2, e3] at a1
    omega
  have hcA : cA = bc_ty G 6 := Option.some.inj (hfA.symm.trans ((hSS.1.1.2 6 _ (bc_tyAt hok 6 rfl)).2))
  have hcC : comp = bc_ty G 0 := Option.some.inj (hfC.symm.trans ((hSS.1.1.2 0 _ (bc_tyAt hok 0 rfl)).2))
  subst hcA
  subst hcC
  have hv : Value.ref H.size = vR G 20 j := by unfold vR; rw [had]
  rw [hv] at step
  have hH1 : bz_H G (n + 17) C S1.heap := by
    refine ⟨⟨by have := hH.1.1; omega, fun q hq => ?_⟩, by omega, fun k' j' h0 h1 h2 => ?_⟩
    · rw [f3 q (by have := hH.1.1; omega)]
      exact hH.1.2 q hq
    · by_cases h3 : bz_off k' j' < n
      · have h4 := hH.2.2 k' j' h0 h1 h3
        exact h4.kept (f3 _ h4.lt)
      · have a1 := hA k' j' h0 h1
        by_cases h5 : bz_off k' j' = n
        · obtain ⟨rfl, rfl⟩ := hok.2.2.2 k' 20 j' j h0 h1 hj.1 hj.2 (by rw [← had]; omega)
          rw [hP]
          show S1.heap[G.2.2.2.1 20 j']? = some (vp_cell (bc_ty G 6) (16, .inr (.inr (.inr (.inr (fun q => some (G.2.2.2.1 21 (16 * j' + (q : Int)))))))))
          rw [← had, f2, vp_cell_q]
          exact congrArg some (arrV_same (fun q hq => by
            show (if q < 16 then Value.ref (H.size + 1 + q) else Value.null) = va_rf (some (G.2.2.2.1 21 (16 * j' + (q : Int))))
            rw [if_pos hq, had1 q hq]
            rfl))
        · have hq0 : ∃ q : Nat, q < 16 ∧ bz_off k' j' = n + 1 + (q : Int) := ⟨(bz_off k' j' - n - 1).toNat, by omega, by omega⟩
          obtain ⟨q, hq, hq1⟩ := hq0
          obtain ⟨rfl, rfl⟩ := hok.2.2.2 k' 21 j' (16 * j + (q : Int)) h0 h1 (by omega) (by show _ < (32 : Int); omega) (by rw [← had1 q hq]; omega)
          rw [hP1 (q : Int) (by omega) (by omega)]
          show S1.heap[G.2.2.2.1 21 (16 * j + (q : Int))]? = some (vp_cell (bc_ty G 0) (6, .inl (fun _ => (0 : Int32))))
          rw [← had1 q hq, f4 q hq, vp_cell_i]
          unfold mz_i
          rw [arrV_new]
  obtain ⟨t, a1, b1⟩ := K p e s m args below meth c S1.heap (locs ++ L1) ls C0 hl hH1 ⟨by have := hS.1; omega, fun x g1 g2 => (f3 x (by have := hS.1; omega)).trans (hS.2.1 x g1 g2), fun q hq => by
    rcases List.mem_append.mp hq with a | a
    · exact hS.2.2 q a
    · rw [hL1 q a]
      exact hH.1.1⟩ S1 rfl X1
  exact ⟨t, step t a1, b1⟩
section KR3
variable {G : bc_G} {own : String} {cc : ByteArray} {mL : Nat} {rt : Option FieldType} {R : Room} {T : bg_T} {Qf : bg_E} {u v pc pc' : Nat} {L : List (Option Value)} {st : List Value}
theorem wk_self {n : Int} {C : bz_C} {k : Nat} {j : Int} {E : va_E} (e : C k j = E) (K : bk_W G own cc mL rt R T Qf u v pc L st (bz_H G n C)) : bk_W G own cc mL rt R T Qf u v pc L st (bz_H G n (cu C k j E)) := by rw [cu_self e]; exact K
theorem bz_pre {n n1 : Int} {C : bz_C} {y : MethodName} {yc : ByteArray} {yL d cN cS : Nat} {as : List Value} {Hp' : Heap → Prop} (e : n1 = n) (h : bz_Call G y yc yL d cN cS as (bz_H G n1 C) Hp') : bz_Call G y yc yL d cN cS as (bz_H G n C) Hp' := e ▸ h
theorem wk_put2 {n : Int} {Cb : bz_C} {k k3 f : Nat} {j j3 : Int} {A : va_E} {idx ci Nn : Nat} {Cn : String} {T0 : u_T} {w : Value} {fs : List Value} {ty0 : Nat → FieldType} (hd : bc_d cc pc (.putfield idx) 3 pc') (hc : bc_cl[ci]? = some (Cn, T0, Nn)) (hin : ∀ w ∈ u_ws Cn T0 Nn, w ∈ bc_wd) (hty : ∀ k, k < Nn → parseFieldDescriptor (T0 k).2.2.1 = some (ty0 k)) (hnm : ∀ a, a < Nn → ∀ b, b < Nn → a ≠ b → (T0 a).2.1 ≠ (T0 b).2.1) (hf : f < Nn) (hw : Cond.fieldLink own idx (T0 f).1 (T0 f).2.1 (T0 f).2.2.1 ∈ bc_wd) (hdecl : (T0 f).1 = own) (hne : k ≠ k3) (hl0 : f < fs.length) (hn : narrow (ty0 f) w = w) (hfit : fits (ty0 f) w = true) (hj : 0 ≤ j ∧ j < bc_n k) (ho : bz_off k j < n)
    (K : bk_W G own cc mL rt R (bz_T G) Qf u v pc' L st (bz_H G n (cu (cu Cb k j (.inr (ci, fs.set f w))) k3 j3 A))) : bk_W G own cc mL rt R (bz_T G) Qf u v pc L (w :: vR G k j :: st) (bz_H G n (cu (cu Cb k j (.inr (ci, fs))) k3 j3 A)) := by
  refine wk_put (ci := ci) (fs := fs) hd hc hin hty hnm hf hw hdecl (by rw [cu_ne (fun q => hne q.1), cu_at]) hl0 hn hfit hj ho ?_
  rw [cu_sw (fun q => hne q.1.symm), cu_cu]
  exact K
theorem bz_H_arr {n : Int} {C : bz_C} {k : Nat} {j : Int} {A : va_E} {H : Heap} (h : bz_H G n (cu C k j A) H) (hj : 0 ≤ j ∧ j < bc_n k) (ho : bz_off k j < n) (e : va_at G.2.1 bc_cl (G.2.2.2.1 k j, A) H → va_at G.2.1 bc_cl (G.2.2.2.1 k j, C k j) H) : bz_H G n C H := by
  refine ⟨h.1, h.2.1, fun k' j' h0 h1 h2 => ?_⟩
  have h3 := h.2.2 k' j' h0 h1 h2
  by_cases he : k' = k ∧ j' = j
  · obtain ⟨rfl, rfl⟩ := he
    rw [cu_at] at h3
    exact e h3
  · rw [cu_ne he] at h3
    exact h3
end KR3
theorem zT_st {s : Int} (h : 0 ≤ s ∧ s < 12) : zT s = zS s + 1 := by unfold zT; rw [if_neg (by omega)]
theorem zC_st {s c : Int} (h : 0 ≤ s ∧ s < 12) (hc : 0 ≤ c ∧ c < 4) : zC (4 * s + c) = zS s + 7 + 3 * c := by
  unfold zC
  rw [if_neg (by omega), if_neg (by omega), show (4 * s + c) / 4 = s by omega, show (4 * s + c) % 4 = c by omega]
theorem zS_ring {r : Int} (h : 0 ≤ r) : zS (2 + r) = 44 + 19 * r := by
  unfold zS
  rw [if_neg (by omega), if_neg (by omega)]
  omega
