theorem vic_q2 {M : bc_M} {x z s ni pol : Int} {g : Int → Int} (hp : M 12 x 1 = pol) (hc : ∀ y, 0 ≤ y → y < 16 → M 13 x y = g (6 + y) ∧ M 14 x y = g (22 + y)) (hni : ni ≤ 16) : ∀ (n : Nat) (i b : Int), 0 ≤ i → i + n = ni → (0 ≤ b ∧ b < ni) → cl_vic M x z s n i b = qw (ql pol (M 8 z) (M 9 z) (M 7 z) g) s n i b
  | 0, _, _, _, _, _ => rfl
  | n + 1, i, b, h1, h2, h3 => by
    simp only [cl_vic, qw]
    have e : cl_less M x z i b = ql pol (M 8 z) (M 9 z) (M 7 z) g i b := by
      unfold cl_less ql
      rw [hp, (hc i h1 (by omega)).1, (hc i h1 (by omega)).2, (hc b h3.1 (by omega)).1, (hc b h3.1 (by omega)).2]
    rw [e]
    exact vic_q2 hp hc hni n (i + 1) _ (by omega) (by omega) (by split <;> omega)
theorem rem_q {M : bc_M} {x z ni cap pol i n : Int} {g : Int → Int} (hsm : SM M z) (hni : M 6 z 3 = ni) (e0 : M 12 x 0 = cap) (e1 : M 12 x 1 = pol) (e7 : M 12 x 7 = g 5) (hc : ∀ y, 0 ≤ y → y < 16 → M 13 x y = q1 g i (6 + y) ∧ M 14 x y = q1 g i (22 + y)) (h : QI g ni n) (hi : 0 ≤ i ∧ i < ni) : cl_rem M x z i = qv cap pol ni (M 8 z) (M 9 z) (M 7 z) g i ∧ cl_new M x z i = qc cap pol ni (M 8 z) (M 9 z) (M 7 z) g i := by
  have hV := hsm.1
  rw [hni] at hV
  have hn16 := hV.2.1
  have hs : cl_set M x i = bs_add (g 5) i := by unfold cl_set; rw [e7]
  have hb : bs (bs_add (g 5) i) i = true := by rw [bs_add_in hi.1 hi.1, decide_eq_true (rfl : i = i), Bool.or_true]
  have hr : cl_rem M x z i = qv cap pol ni (M 8 z) (M 9 z) (M 7 z) g i := by
    unfold cl_rem qv
    rw [hs, e0, hni]
    by_cases q : bs_cnt (bs_add (g 5) i) 16 ≤ cap
    · rw [if_pos q, if_pos q]
    · rw [if_neg q, if_neg q, vic_q2 e1 hc (by omega) ni.toNat 0 i (by omega) (by omega) hi]
      exact (qm_qw (q_ord hV h hi) (by omega) ⟨hi.1, hi.2, hb⟩).symm
  refine ⟨hr, ?_⟩
  unfold cl_new qc
  rw [hs, e0, hr]
/-- the class asks as the rows do -/
theorem ask_q {M : bc_M} {x z j ni cap pol i n : Int} {g : Int → Int} (hsm : SM M z) (hni : M 6 z 3 = ni) (hE : CE M x cap pol g) (h : QI g ni n) (hi : 0 ≤ i ∧ i < ni) : CE (askM M x z j i) x cap pol (qG cap pol ni (M 8 z) (M 9 z) (M 7 z) (fun i t => pg_wait M j i t) (fun i t => pg_listen M j i t) g i) ∧ askR M x j i = qR (fun i t => pg_wait M j i t) g i := by
  have hV := hsm.1
  rw [hni] at hV
  have hn16 := hV.2.1
  obtain ⟨⟨a1, a2⟩, ⟨b2, b3, b4, b5, b6, b7, b8⟩, h3⟩ := id hE
  obtain ⟨⟨c1, c2⟩, ⟨d2, d3, d4, d5, d6, d7, d8⟩, f3⟩ := hE.n1 (i := i) (by omega)
  refine ⟨?_, by unfold askR qR; rw [b7, b2]⟩
  unfold askM qG
  rw [b7]
  by_cases hb : bs (g 5) i = true
  · rw [if_pos hb, if_pos hb]
    unfold CE
    rw [up_at, up_kne (k := 12) (k' := 13) (by decide), up_kne (k := 12) (k' := 14) (by decide), u_at, u_at]
    simp only [u_ne (show (0 : Int) ≠ 3 by decide), u_ne (show (1 : Int) ≠ 3 by decide), u_ne (show (2 : Int) ≠ 3 by decide), u_ne (show (4 : Int) ≠ 3 by decide), u_ne (show (5 : Int) ≠ 3 by decide), u_ne (show (6 : Int) ≠ 3 by decide), u_ne (show (7 : Int) ≠ 3 by decide), u_ne (show (8 : Int) ≠ 3 by decide), u_ne (show (0 : Int) ≠ 1 by decide), u_ne (show (2 : Int) ≠ 1 by decide), u_ne (show (3 : Int) ≠ 1 by decide), u_ne (show (4 : Int) ≠ 1 by decide), u_ne (show (5 : Int) ≠ 1 by decide), c1, c2, d2, d4, d5, d6, d7, d8]
    rw [q1_v (f := 0) (by omega) (by omega), q1_v (f := 2) (by omega) (by omega), q1_v (f := 3) (by omega) (by omega), q1_v (f := 4) (by omega) (by omega), q1_v (f := 5) (by omega) (by omega)]
    refine ⟨⟨trivial, trivial⟩, ⟨rfl, by omega, rfl, rfl, rfl, rfl, by omega⟩, fun y a b => ?_⟩
    rw [u_ne (by omega), u_ne (by omega)]
    exact f3 y a b
  · rw [if_neg hb, if_neg hb, b2]
    have s1 : ∀ k, (k = 6 ∨ k = 7 ∨ k = 8 ∨ k = 9 ∨ k = 10) → ask5 (ask1 M x i) x (pg_wait M j i (g 0)) (pg_listen M j i (g 0)) k z = M k z := fun k hk => by rw [ask5_o (by omega), ask1_o (by omega)]
    have hsm' := SM_fr (M' := ask5 (ask1 M x i) x (pg_wait M j i (g 0)) (pg_listen M j i (g 0))) hsm s1
    have hr := (rem_q (x := x) (cap := cap) (pol := pol) (g := g) (i := i) hsm' (by rw [s1 6 (by decide)]; exact hni) (by rw [ask5_v (by decide)]; exact c1) (by rw [ask5_v (by decide)]; exact c2) (by rw [ask5_v (by decide)]; exact d7) (fun y a b => by rw [ask5_o (by decide), ask5_o (by decide)]; exact f3 y a b) h hi).2
    rw [s1 8 (by decide), s1 9 (by decide), s1 7 (by decide)] at hr
    rw [hr]
    unfold CE
    rw [up_at, up_kne (k := 12) (k' := 13) (by decide), up_kne (k := 12) (k' := 14) (by decide), ask5_o (k := 13) (by decide), ask5_o (k := 14) (by decide), u_at, u_at]
    unfold ask5
    simp only [up_v, u_at, u_ne (show (0 : Int) ≠ 7 by decide), u_ne (show (1 : Int) ≠ 7 by decide), u_ne (show (2 : Int) ≠ 7 by decide), u_ne (show (3 : Int) ≠ 7 by decide), u_ne (show (4 : Int) ≠ 7 by decide), u_ne (show (5 : Int) ≠ 7 by decide), u_ne (show (6 : Int) ≠ 7 by decide), u_ne (show (8 : Int) ≠ 7 by decide),
      u_ne (show (0 : Int) ≠ 5 by decide), u_ne (show (1 : Int) ≠ 5 by decide), u_ne (show (2 : Int) ≠ 5 by decide), u_ne (show (3 : Int) ≠ 5 by decide), u_ne (show (4 : Int) ≠ 5 by decide), u_ne (show (1 : Int) ≠ 0 by decide), u_ne (show (2 : Int) ≠ 0 by decide), u_ne (show (3 : Int) ≠ 0 by decide), u_ne (show (4 : Int) ≠ 0 by decide), u_ne (show (1 : Int) ≠ 4 by decide), u_ne (show (2 : Int) ≠ 4 by decide), u_ne (show (3 : Int) ≠ 4 by decide), u_ne (show (1 : Int) ≠ 3 by decide), u_ne (show (2 : Int) ≠ 3 by decide), u_ne (show (1 : Int) ≠ 2 by decide)]
    rw [q1_v (f := 1) (by omega) (by omega)]
    simp only [if_neg (show ¬ (0 : Int) = 2 by decide), if_neg (show ¬ (0 : Int) = 4 by decide), if_neg (show ¬ (0 : Int) = 5 by decide), if_neg (show ¬ (0 : Int) = 6 by decide), if_neg (show ¬ (1 : Int) = 2 by decide), if_neg (show ¬ (1 : Int) = 4 by decide), if_neg (show ¬ (1 : Int) = 5 by decide), if_neg (show ¬ (1 : Int) = 6 by decide), if_neg (show ¬ (2 : Int) = 4 by decide), if_neg (show ¬ (2 : Int) = 5 by decide), if_neg (show ¬ (2 : Int) = 6 by decide), if_neg (show ¬ (3 : Int) = 2 by decide), if_neg (show ¬ (3 : Int) = 4 by decide), if_neg (show ¬ (3 : Int) = 5 by decide), if_neg (show ¬ (3 : Int) = 6 by decide), if_neg (show ¬ (4 : Int) = 2 by decide), if_neg (show ¬ (4 : Int) = 5 by decide), if_neg (show ¬ (4 : Int) = 6 by decide), if_neg (show ¬ (5 : Int) = 2 by decide), if_neg (show ¬ (5 : Int) = 4 by decide), if_neg (show ¬ (5 : Int) = 6 by decide), if_neg (show ¬ (6 : Int) = 2 by decide), if_neg (show ¬ (6 : Int) = 4 by decide), if_neg (show ¬ (6 : Int) = 5 by decide), if_neg (show ¬ (8 : Int) = 2 by decide), if_neg (show ¬ (8 : Int) = 4 by decide), if_neg (show ¬ (8 : Int) = 5 by decide), if_neg (show ¬ (8 : Int) = 6 by decide), if_true, c1, c2, d2, d3, d4, d5, d6, d8]
    refine ⟨⟨trivial, trivial⟩, ⟨trivial, trivial, trivial, trivial, trivial, trivial, by omega⟩, fun y a b => ?_⟩
    rw [u_ne (by omega), u_ne (by omega), u_ne (by omega), u_ne (by omega), u_ne (by omega), u_ne (by omega), u_ne (by omega), u_ne (by omega), u_ne (by omega), u_ne (by omega)]
    exact f3 y a b
