/-! throws -/
def bc_sup : List String := ["java/lang/RuntimeException", "java/lang/Exception"]
def bc_th (own : String) (ic ik : Nat) (cls : String) : Prop := (∀ w ∈ vx_atS own ic cls bc_sup, w ∈ lw_tbl) ∧ (∀ w ∈ vx_atS own ic cls bc_sup, goodWord w = true ∨ w = .castable cls cls ∨ ∃ y ∈ bc_decl, w = .declares y) ∧ (∀ w ∈ Cond.classLink own ik cls :: Cond.initialized cls :: vx_atS own ic cls bc_sup, vx_ot w = true) ∧ cls ∈ bc_casts ∧ Bundle.fit cls = true ∧ (∀ n ∈ bc_sup, Bundle.fit n = true) ∧ Cond.classLink own ik cls ∈ bc_wd ∧ Cond.initialized cls ∈ bc_wd
theorem bc_Zold {G : bc_G} {C n d : String} {U : State} {H : Heap} (hO : bc_O G H) (h : vx_Zq C n d (bc_A G) U G.2.2.2.2) : vx_Zq C n d (bc_A G) U H := h.kept fun a ha _ => hO.2 a ha
section THROW
variable {G : bc_G} {own : String} {cc : ByteArray} {mL : Nat} {rt : Option FieldType} {d N u pc pc' : Nat} {L : List (Option Value)} {st : List Value} {M : bc_M} {post : bc_R → bc_M → Prop}
theorem bc_atS {ic ik : Nat} {cls : String} {args : Array Value} {s : State} (h : bc_th own ic ik cls) (hts : ∀ w ∈ bc_wd, w.before args s = true) (hS : bc_S G s) : ∀ w ∈ vx_atS own ic cls bc_sup, w.before args s = true := by
  intro w hw
  rcases h.2.1 w hw with g | g | ⟨y, hy, g⟩
  · exact hts w (List.mem_filter.mpr ⟨h.1 w hw, g⟩)
  · rw [g]
    exact va_Nw.use rfl (hS.2.2.2.2.1 cls h.2.2.2.1)
  · rw [g]
    exact va_Nw.use rfl (hS.2.2.2.2.2.2 y hy)
theorem bc_H_more {H H' : Heap} (hH : bc_H G M H) (hz : H.size ≤ H'.size) (hq : ∀ q : Nat, q < H.size → H'[q]? = H[q]?) : bc_H G M H' :=
  ⟨⟨Nat.le_trans hH.1.1 hz, fun q h => (hq q (Nat.lt_of_lt_of_le h hH.1.1)).trans (hH.1.2 q h)⟩, fun k j h0 h1 => (hH.2 k j h0 h1).kept (hq _ (hH.2 k j h0 h1).lt)⟩
theorem bc_throwS {ic ik is ti : Nat} {cls tx : String} {p3 p4 p6 p9 p10 : Nat} (h : bc_th own ic ik cls) (hs : (own, is, tx, ti) ∈ bc_strs) (d0 : bc_d cc pc (.new ik) 3 p3) (d3 : bc_d cc p3 .dup 1 p4) (d4 : bc_d cc p4 (.ldc is) 2 p6) (d6 : bc_d cc p6 (.invokespecial ic) 3 p9) (d9 : bc_d cc p9 .athrow 1 p10) (K : post (.inl cls) M) (hd : 6 ≤ d := by decide) (hu : u + 1 ≤ N := by decide) (hst : Nat.ble ((st.map fun v => v.category).sum) 8 = true := by rfl) : bc_W G own cc mL rt d N u pc L st M post := by
  intro p e s m args below meth c H locs ls C hl hH hS
  obtain ⟨d0, rfl⟩ := d0
  obtain ⟨d3, rfl⟩ := d3
  obtain ⟨d4, rfl⟩ := d4
  obtain ⟨d6, rfl⟩ := d6
  obtain ⟨d9, -⟩ := d9
  have hts := C.2.2.2.2.2.1
  have hSS := C.2.2.2.2.2.2.2.2.1
  have hO := C.2.2.2.2.2.2.2.2.2.2
  have hst := Nat.le_of_ble_eq_true hst
  exact vx_throwS (names := bc_sup) C.1 C.2.1 C.2.2.2.2.2.2.2.2.2.1.1 C.2.2.2.2.1 h.2.2.2.2.1 h.2.2.2.2.2.1 (hts _ h.2.2.2.2.2.2.1) (hts _ h.2.2.2.2.2.2.2) (hSS.2.2.2.1.2.1 _ hs) (bc_atS h hts hSS) h.2.2.1 (bc_Zold hO hSS.2.2.1.1) (bc_Zold hO hSS.2.2.1.2) hS (hl.1.trans C.2.2.2.1.symm) d0 d3 d4 d6 d9 (fun x hx => (C.2.2.2.2.2.2.2.1 x hx).elim)
    (by show 2 + 3 < d; omega) (by show _ + (13 * (2 + 1) + 43) ≤ 64 * d; omega) (by show u + 1 ≤ N; exact hu) (by show 8 * u + 6 ≤ 8 * N; omega) C.2.2.2.2.2.2.1
    (fun t _ hz hq => ⟨⟨M, K, bc_H_more hH hz hq⟩, Nat.le_trans hS.1 hz, fun q h1 h2 => (hq q (Nat.lt_of_lt_of_le h1 hS.1)).trans (hS.2.1 q h1 h2)⟩) hS.2.2 hu (by omega)
theorem bc_throwW {ic ik is ti : Nat} {cls tx : String} {p3 p4 p6 p9 p10 : Nat} (h : bc_th own ic ik cls) (hs : (own, is, tx, ti) ∈ bc_strs) (d0 : bc_d cc pc (.new ik) 3 p3) (d3 : bc_d cc p3 .dup 1 p4) (d4 : bc_d cc p4 (.ldc_w is) 3 p6) (d6 : bc_d cc p6 (.invokespecial ic) 3 p9) (d9 : bc_d cc p9 .athrow 1 p10) (K : post (.inl cls) M) (hd : 6 ≤ d := by decide) (hu : u + 1 ≤ N := by decide) (hst : Nat.ble ((st.map fun v => v.category).sum) 8 = true := by rfl) : bc_W G own cc mL rt d N u pc L st M post := by
  intro p e s m args below meth c H locs ls C hl hH hS
  obtain ⟨d0, rfl⟩ := d0
  obtain ⟨d3, rfl⟩ := d3
  obtain ⟨d4, rfl⟩ := d4
  obtain ⟨d6, rfl⟩ := d6
  obtain ⟨d9, -⟩ := d9
  have hts := C.2.2.2.2.2.1
  have hSS := C.2.2.2.2.2.2.2.2.1
  have hO := C.2.2.2.2.2.2.2.2.2.2
  have hst := Nat.le_of_ble_eq_true hst
  exact vx_throwSW (names := bc_sup) C.1 C.2.1 C.2.2.2.2.2.2.2.2.2.1.1 C.2.2.2.2.1 h.2.2.2.2.1 h.2.2.2.2.2.1 (hts _ h.2.2.2.2.2.2.1) (hts _ h.2.2.2.2.2.2.2) (hSS.2.2.2.1.2.1 _ hs) (bc_atS h hts hSS) h.2.2.1 (bc_Zold hO hSS.2.2.1.1) (bc_Zold hO hSS.2.2.1.2) hS (hl.1.trans C.2.2.2.1.symm) d0 d3 d4 d6 d9 (fun x hx => (C.2.2.2.2.2.2.2.1 x hx).elim)
    (by show 2 + 3 < d; omega) (by show _ + (13 * (2 + 1) + 43) ≤ 64 * d; omega) (by show u + 1 ≤ N; exact hu) (by show 8 * u + 6 ≤ 8 * N; omega) C.2.2.2.2.2.2.1
    (fun t _ hz hq => ⟨⟨M, K, bc_H_more hH hz hq⟩, Nat.le_trans hS.1 hz, fun q h1 h2 => (hq q (Nat.lt_of_lt_of_le h1 hS.1)).trans (hS.2.1 q h1 h2)⟩) hS.2.2 hu (by omega)
end THROW
set_option maxRecDepth 100000 in
theorem th_ISE : bc_th RX8 90 86 "java/lang/IllegalStateException" := ⟨by decide +kernel, by decide +kernel, by decide +kernel, by decide +kernel, by decide +kernel, by decide +kernel, by decide +kernel, by decide +kernel⟩
set_option maxRecDepth 100000 in
theorem th_IAE : bc_th RX8 343 339 "java/lang/IllegalArgumentException" := ⟨by decide +kernel, by decide +kernel, by decide +kernel, by decide +kernel, by decide +kernel, by decide +kernel, by decide +kernel, by decide +kernel⟩
