/-! the walk to the loop -/
def lw_T2 (G : bc_G) (b Ls : Nat) (xs : Nat → Int32) : bg_T := fun p s m args meth c => lw_T G b Ls xs p s m args meth c ∧ bz_S G s
theorem ns_KK : KK bz_Z ((0 : Nat) : Int) := by
  refine ⟨Or.inl rfl, rfl, ⟨⟨rfl, by decide, by decide⟩, fun q h0 h1 => absurd h1 (by show ¬ (q < 0); omega)⟩, rfl, fun q _ _ => (⟨by decide, by decide⟩ : (0 : Int) ≤ 0 ∧ (0 : Int) < 10000), ⟨by decide, by decide⟩, ⟨by decide, by decide⟩, ⟨by decide, by decide⟩, ⟨by decide, by decide⟩, ⟨by decide, by decide⟩, by decide, fun _ => rfl, fun h => absurd h (by decide)⟩
theorem bk_bg {G : bc_G} {own : String} {cc : ByteArray} {mL : Nat} {rt : Option FieldType} {R : Room} {Qf : bg_E} {u v pc : Nat} {L : List (Option Value)} {st : List Value} {b Ls : Nat} {xs : Nat → Int32} (h : bg_W G own cc mL rt R (lw_T G b Ls xs) Qf u v pc L st bz_Z) : bk_W G own cc mL rt R (lw_T2 G b Ls xs) Qf u v pc L st (bz_H G 319 (bz_C0 G)) := by
  intro p e s m args below meth c H locs ls C hl hH hS
  obtain ⟨g1, g2, g3, g4, g5, g6, g7, g8, g9, g10, g11⟩ := C
  exact h p e s m args below meth c H locs ls ⟨g1, g2, g3, g4, g5, g6, g7, g8.1, g9, g10, g11⟩ hl ⟨hH.1, fun k j a b => hH.2.2 k j a b (ns_lt a b)⟩ hS
theorem law_start {G : bc_G} {b Ls : Nat} {xs : Nat → Int32} (hA : bz_ad G) (hL : Ls ≤ 3072) : bk_W G RL cL_law 9 ret room_1 (lw_T2 G b Ls xs) lw_E 0 0 0 [some (.ref b), none, none, none, none, none, none, none, none] [] (bz_H G 0 (bz_C0 G)) := by
  refine wk_new (k := 1) (j := 0) (ci := 8) (fs := [.null, vI 0, vI 0, vI 0, .null, .null, .null, .null, .null, .null, .null, .null, .null, .null]) hA eL_law_0 in_X8 tyX8 tyX8_ok mw_128 mw_129 mw_105 rfl (by decide +kernel) (show (0 : Int) ≤ 0 ∧ (0 : Int) < 1 by omega) rfl ⟨Nat.le_of_ble_eq_true rfl, Nat.le_of_ble_eq_true rfl⟩ ?_
  refine wk_dup eL_law_3 ?_
  refine wk_init (k := 1) (j := 0) (fun _ _ _ _ _ _ h => h.2) wk_O eL_law_4 mw_130 mw_131 mw_105 mw_132 ⟨by decide, by decide, by decide +kernel⟩ rfl (by decide) ⟨Nat.le_of_ble_eq_true rfl, Nat.le_of_ble_eq_true rfl⟩ ⟨Nat.le_of_ble_eq_true rfl, Nat.le_of_ble_eq_true rfl⟩ rfl (zi_X8 hA (fun k j _ _ _ => rfl)) ?_
  refine wk_self (k := 1) (j := 0) rfl ?_
  refine wk_astore_n eL_law_7 rfl ?_
  refine wk_new (k := 33) (j := 0) (ci := 9) (fs := [.null, .null, vI 0, vI 0, vI 0, vI 0, vI 0, vI 0, .null, .null, .null, vI 0, vI 0, vI 0, vI 0, vI 0, vI 0, vI 0, vI 0, .null, vI 0, vI 0, vI 0, .null, .null, vI 0, .null, vI 0, .null, .null, vI 0, .null, .null, .null, vJ 0, vI 0, vI 0, .null, .null, .null, vI 0, vI 0]) hA eL_law_8 in_X9 tyX9 tyX9_ok mw_1346 mw_1347 mw_114 rfl (by decide +kernel) (show (0 : Int) ≤ 0 ∧ (0 : Int) < 1 by omega) rfl ⟨Nat.le_of_ble_eq_true rfl, Nat.le_of_ble_eq_true rfl⟩ ?_
  refine wk_dup eL_law_11 ?_
  refine wk_init (k := 33) (j := 0) (fun _ _ _ _ _ _ h => h.2) wk_O eL_law_12 mw_1348 mw_1349 mw_114 mw_1350 ⟨by decide, by decide, by decide +kernel⟩ rfl (by decide) ⟨Nat.le_of_ble_eq_true rfl, Nat.le_of_ble_eq_true rfl⟩ ⟨Nat.le_of_ble_eq_true rfl, Nat.le_of_ble_eq_true rfl⟩ rfl (bz_pre (by decide) (zi_X9 hA (fun k j _ _ _ => rfl))) ?_
  refine wk_self (k := 33) (j := 0) rfl ?_
  refine wk_astore_n eL_law_15 rfl ?_
  refine wk_iconst eL_law_16 ?_
  refine wk_newa (k := 51) (j := 0) (t := 2) (N' := 1) (ty := .long) (a1 := .inr (.inl (fun _ => (0 : Int64)))) hA eL_law_17 mw_1931 rfl rfl (fun _ _ h => h) rfl (fun _ => rfl) rfl (by decide) (by decide) (show (0 : Int) ≤ 0 ∧ (0 : Int) < 1 by omega) rfl ⟨Nat.le_of_ble_eq_true rfl, Nat.le_of_ble_eq_true rfl⟩ ?_
  refine wk_astore_n eL_law_19 rfl ?_
  refine wk_iconst eL_law_20 ?_
  refine wk_newa (k := 52) (j := 0) (t := 3) (N' := 1) (ty := .double) (a1 := .inr (.inr (.inr (.inl (fun _ => (0 : UInt64)))))) hA eL_law_21 mw_1932 rfl rfl (fun _ _ h => h) rfl (fun _ => rfl) rfl (by decide) (by decide) (show (0 : Int) ≤ 0 ∧ (0 : Int) < 1 by omega) rfl ⟨Nat.le_of_ble_eq_true rfl, Nat.le_of_ble_eq_true rfl⟩ ?_
  refine wk_astore eL_law_23 rfl ?_
  refine wk_iconst eL_law_25 ?_
  refine wk_istore eL_law_26 rfl ?_
  refine wk_widen (k := 1000 + 5 * 0) (n := 20000 + 40 * 0) (Nat.le_of_ble_eq_true rfl) (Nat.le_of_ble_eq_true rfl) ?_
  refine wk_weak (Hp' := bz_H G 319 (bz_C0 G)) (fun H h => bz_H_n h (by decide)) ?_
  exact bk_bg (law_loop hL Ls 0 bz_Z none none none (by omega) (by omega) ns_KK)
theorem whole_start {p : Program} {e : Env} {s : State} {m : MethodId} {below : List Frame} {meth : Method} {c : Code} (l : Launch) (hflags : l.flags = flags0) {b L : Nat} {xs : Nat → Int32} (hL : L ≤ 3072) (C0 : lw_At p s m meth c b L xs) : W p l e room_1 s m #[Value.ref b] below meth c s.heap [] 0 0 (lw_Z below #[Value.ref b] s) (entryFrame m ([Value.ref b] : List Value).toArray 9) := by
  obtain ⟨hx, hb, hr, hml, hown, hts, hX, hbl, hlocks, hgv⟩ := C0
  have hst : l.stackTraces = false := by
    unfold Launch.stackTraces
    rw [hflags]
    decide +kernel
  obtain ⟨G, g1, g2, hA, hok, hSS⟩ := ns_world l hst hts hgv
  subst g1
  have h := law_start (G := G) (b := b) (Ls := L) (xs := xs) hA hL
  have hl := lv_entry ([.ref b]) (n := 9) (Nat.le_of_ble_eq_true rfl)
  rw [lg_entry_eq]
  have hO : bc_O G s.heap := ⟨by rw [g2]; exact Nat.le_refl _, fun q _ => by rw [g2]⟩
  exact h p e s m #[Value.ref b] below meth c s.heap [] _ ⟨hx, hb, hr, hml, hown, fun w hw => hts w (List.mem_filter.mp hw).1, hlocks, ⟨⟨rfl, hX, hbl, g2⟩, hSS⟩, hSS.1, hok, hO⟩ hl ⟨hO, by rw [g2]; omega, fun k j a b c => absurd c (by have := (ns_offI a b).2; omega)⟩ va_S.rf
