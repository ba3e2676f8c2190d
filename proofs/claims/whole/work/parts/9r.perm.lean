/-! the orders of a plan: the class steps from one to the next, the model tries them all -/
def gD (l : List Int) (q : Int) : Int := l.getD q.toNat 0
def rg (k : Nat) : List Int := (List.range k).map (fun (i : Nat) => (i : Int))
theorem orb_all : ∀ k, k < 5 → orb ((k + 1 : Nat) : Int) 120 (rg (k + 1)) = perms (k + 1) (rg (k + 1)) := by decide +kernel
/-- g is a along p -/
def ALo (a : Int → Int) (c : Int) (g p : Int → Int) : Prop := ∀ q, 0 ≤ q → q < c → g q = a (p q) ∧ 0 ≤ p q ∧ p q < c
theorem ALo.sw {a g p : Int → Int} {c x y : Int} (h : ALo a c g p) (hx : 0 ≤ x ∧ x < c) (hy : 0 ≤ y ∧ y < c) : ALo a c (or_sw g x y) (or_sw p x y) := fun q h0 h1 => by
  unfold or_sw
  by_cases e : q = y
  · subst e; rw [u_at, u_at]; exact h x hx.1 hx.2
  · rw [u_ne e, u_ne e]
    by_cases e2 : q = x
    · subst e2; rw [u_at, u_at]; exact h y hy.1 hy.2
    · rw [u_ne e2, u_ne e2]; exact h q h0 h1
theorem ALo.rev {a : Int → Int} {c : Int} : ∀ (n : Nat) (lo hi : Int) (g p : Int → Int), 0 ≤ lo → hi < c → ALo a c g p → ALo a c (or_rev n lo hi g) (or_rev n lo hi p)
  | 0, _, _, _, _, _, _, h => h
  | n + 1, lo, hi, g, p, h0, h1, h => by
    simp only [or_rev]
    by_cases e : lo < hi
    · rw [if_pos e, if_pos e]
      exact ALo.rev n (lo + 1) (hi - 1) _ _ (by omega) (by omega) (h.sw ⟨h0, by omega⟩ ⟨by omega, h1⟩)
    · rw [if_neg e, if_neg e]; exact h
/-- a grows -/
def MO (a : Int → Int) (c : Int) : Prop := ∀ x y, 0 ≤ x → x < y → y < c → a x < a y
theorem MO.lt {a : Int → Int} {c x y : Int} (h : MO a c) (hx : 0 ≤ x ∧ x < c) (hy : 0 ≤ y ∧ y < c) : a x < a y ↔ x < y := by
  constructor
  · intro q
    apply Decidable.byContradiction
    intro hn
    by_cases e : x = y
    · subst e; omega
    · have := h y x hy.1 (by omega) hx.2; omega
  · intro q; exact h x y hx.1 q hy.2
theorem fit_c {a g p : Int → Int} {c w : Int} (hm : MO a c) (h : ALo a c g p) (hw : 0 ≤ w ∧ w < c) : ∀ (n : Nat) (x : Int), x < c → 0 ≤ x - n → or_fit g w n x = or_fit p w n x
  | 0, _, _, _ => rfl
  | n + 1, x, h0, h1 => by
    have hx := h x (by omega) h0
    have hw' := h w hw.1 hw.2
    have hlt : g x < g w ↔ p x < p w := by rw [hx.1, hw'.1]; exact hm.lt hx.2 hw'.2
    simp only [or_fit]
    by_cases e : g x < g w
    · rw [if_pos e, if_pos (hlt.mp e)]; exact fit_c hm h hw n (x - 1) (by omega) (by omega)
    · rw [if_neg e, if_neg (fun z => e (hlt.mpr z))]
theorem nx_c {a g p : Int → Int} {c : Int} (hm : MO a c) (h : ALo a c g p) : ∀ (n : Nat) (w : Int), w + 1 = n → w ≤ c - 2 → (or_nx g c n w).1 = (or_nx p c n w).1 ∧ ALo a c (or_nx g c n w).2 (or_nx p c n w).2
  | 0, _, _, _ => ⟨rfl, h⟩
  | n + 1, w, h0, h1 => by
    have hw := h w (by omega) (by omega)
    have hw' := h (w + 1) (by omega) (by omega)
    have hlt : g w < g (w + 1) ↔ p w < p (w + 1) := by rw [hw.1, hw'.1]; exact hm.lt hw.2 hw'.2
    simp only [or_nx]
    by_cases e : g w < g (w + 1)
    · rw [if_pos e, if_pos (hlt.mp e)]
      refine ⟨rfl, ?_⟩
      rw [fit_c hm h ⟨by omega, by omega⟩ _ _ (by omega) (by omega)]
      have hr := or_fit_rng (g := p) (p := w) (c - 2 - w).toNat (c - 1)
      exact ALo.rev _ _ _ _ _ (by omega) (by omega) (h.sw ⟨by omega, by omega⟩ ⟨by omega, by omega⟩)
    · rw [if_neg e, if_neg (fun z => e (hlt.mpr z))]
      exact nx_c hm h n (w - 1) (by omega) (by omega)
theorem next_c {a g p : Int → Int} {c : Int} (hc : 1 ≤ c) (hm : MO a c) (h : ALo a c g p) : (or_next g c).1 = (or_next p c).1 ∧ ALo a c (or_next g c).2 (or_next p c).2 := by
  unfold or_next
  exact nx_c hm h _ _ (by omega) (by omega)
theorem gD_map {f : Int → Int} {c q : Int} (h0 : 0 ≤ q) (h1 : q < c) : gD ((List.range c.toNat).map (fun (i : Nat) => f (i : Int))) q = f q := by
  unfold gD
  rw [List.getD_eq_getElem?_getD, List.getElem?_map, List.getElem?_range (by omega)]
  simp only [Option.map_some, Option.getD_some]
  rw [show ((q.toNat : Nat) : Int) = q by omega]
theorem next_L {a g : Int → Int} {l : List Int} {c : Int} (hc : 1 ≤ c) (hm : MO a c) (h : ALo a c g (gD l)) : (or_next g c).1 = (oL c l).1 ∧ ALo a c (or_next g c).2 (gD (oL c l).2) := by
  have hn := next_c hc hm h
  refine ⟨hn.1, fun q h0 h1 => ?_⟩
  have e : gD (oL c l).2 q = (or_next (gD l) c).2 q := by
    unfold oL
    exact gD_map (f := (or_next (gD l) c).2) h0 h1
  rw [e]
  exact hn.2 q h0 h1
/-- the first best of a list of orders -/
def bst (T : List Int → Int) : List (List Int) → Bool × Int × List Int → Bool × Int × List Int
  | [], s => s
  | l :: r, s => bst T r (if s.1 = false ∨ T l < s.2.1 then (true, T l, l) else s)
theorem bst_app {T : List Int → Int} : ∀ (x y : List (List Int)) (s : Bool × Int × List Int), bst T (x ++ y) s = bst T y (bst T x s)
  | [], _, _ => rfl
  | l :: r, y, s => by
    simp only [List.cons_append, bst]
    exact bst_app r y _
theorem pl_orb {a : Int → Int} {c : Int} {tm : (Int → Int) → Int} {T : List Int → Int} (hc : 1 ≤ c) (hm : MO a c) (hT : ∀ g l, l.length = c.toNat → ALo a c g (gD l) → tm g = T l) : ∀ (f : Nat) (n : Int) (g : Int → Int) (bt : Int) (br : Int → Int) (l : List Int) (s : Bool × Int × List Int), l.length = c.toNat → 0 ≤ n → ALo a c g (gD l) → (s.1 = false ↔ n = 0) → s.2.1 = bt → (s.1 = true → ALo a c br (gD s.2.2)) → (bst T (orb c f l) s).2.1 = (pl tm c f n g bt br).1 ∧ ((bst T (orb c f l) s).1 = true → ALo a c (pl tm c f n g bt br).2 (gD (bst T (orb c f l) s).2.2))
  | 0, n, g, bt, br, l, s, _, _, _, _, hb, hr => ⟨hb, hr⟩
  | f + 1, n, g, bt, br, l, s, hlen, h0, hg, hf, hb, hr => by
    have hlen' : (oL c l).2.length = c.toNat := by simp only [oL, List.length_map, List.length_range]
    have hn := next_L hc hm hg
    have ht := hT g l hlen hg
    simp only [orb, pl, bst]
    rw [ht]
    have hcc : (s.1 = false ∨ T l < s.2.1) ↔ (n = 0 ∨ T l < bt) := by rw [hf, hb]
    by_cases hq : n = 0 ∨ T l < bt
    · rw [if_pos hq, if_pos hq, if_pos (hcc.mpr hq)]
      by_cases e : (or_next g c).1 = true
      · rw [if_pos e, if_pos (by rw [← hn.1]; exact e)]
        exact pl_orb hc hm hT f (n + 1) _ _ _ _ _ hlen' (by omega) hn.2 ⟨fun q => by simp at q, fun q => by omega⟩ rfl (fun _ => hg)
      · rw [if_neg e, if_neg (by rw [← hn.1]; exact e)]
        exact ⟨rfl, fun _ => hg⟩
    · rw [if_neg hq, if_neg hq, if_neg (fun z => hq (hcc.mp z))]
      by_cases e : (or_next g c).1 = true
      · rw [if_pos e, if_pos (by rw [← hn.1]; exact e)]
        exact pl_orb hc hm hT f (n + 1) _ _ _ _ _ hlen' (by omega) hn.2 ⟨fun q => by have := hf.mp q; omega, fun q => by omega⟩ hb hr
      · rw [if_neg e, if_neg (by rw [← hn.1]; exact e)]
        exact ⟨hb, hr⟩
/-! the model -/
theorem bs_sub_nn {s i : Int} (hs : 0 ≤ s) (hb : bs s i = true) : 0 ≤ s - ((2 ^ i.toNat : Nat) : Int) := by
  unfold bs at hb
  have := Nat.ge_two_pow_of_testBit hb
  omega
theorem pair_lt {a : Int → Int} {l : List Int} (h : l.Pairwise (fun x y => a x < a y)) {x y : Int} (hx : x ∈ l) (hy : y ∈ l) (hn : x ≠ y) : a x < a y ∨ a y < a x := by
  induction l with
  | nil => exact absurd hx (List.not_mem_nil)
  | cons z r ih =>
    have h1 := List.pairwise_cons.mp h
    rcases List.mem_cons.mp hx with p | p
    · rcases List.mem_cons.mp hy with q | q
      · exact absurd (p.trans q.symm) hn
      · subst p; exact Or.inl (h1.1 y q)
    · rcases List.mem_cons.mp hy with q | q
      · subst q; exact Or.inr (h1.1 x p)
      · exact ih h1.2 p q
theorem ptL_f {D : Int → (Int → Int) × (Bool × Int × (Int → Int)) → (Int → Int) × (Bool × Int × (Int → Int))} {a : Int → Int} {left dp : Int} : ∀ (n : Nat) (i : Int) (l : List Int) (s : (Int → Int) × (Bool × Int × (Int → Int))), l.Pairwise (fun x y => a x < a y) → (∀ x, x ∈ l → i ≤ a x ∧ a x < i + n) → (∀ k, i ≤ k → k < i + n → (bs left k = true ↔ ∃ x, x ∈ l ∧ a x = k)) → ptL D left dp n i s = l.foldl (fun s x => D (a x) (bc_u s.1 dp (a x), s.2)) s
  | 0, i, l, s, _, h2, _ => by
    cases l with
    | nil => rfl
    | cons x r => have := h2 x (List.mem_cons_self); omega
  | n + 1, i, l, s, h1, h2, h3 => by
    simp only [ptL]
    have e := h3 i (by omega) (by omega)
    by_cases hb : bs left i = true
    · rw [if_pos hb]
      obtain ⟨x, hx, ha⟩ := e.mp hb
      cases l with
      | nil => exact absurd hx (List.not_mem_nil)
      | cons y r =>
        have h1' := List.pairwise_cons.mp h1
        have hy : a y = i := by
          have := h2 y (List.mem_cons_self)
          rcases List.mem_cons.mp hx with q | q
          · rw [← q]; exact ha
          · have := h1'.1 x q; omega
        rw [List.foldl_cons, hy]
        refine ptL_f n (i + 1) r _ h1'.2 (fun x hx => ?_) (fun k a0 a1 => ?_)
        · have := h1'.1 x hx
          have := h2 x (List.mem_cons_of_mem _ hx)
          omega
        · rw [h3 k (by omega) (by omega)]
          constructor
          · rintro ⟨z, z1, z2⟩
            rcases List.mem_cons.mp z1 with q | q
            · subst q; omega
            · exact ⟨z, q, z2⟩
          · rintro ⟨z, z1, z2⟩; exact ⟨z, List.mem_cons_of_mem _ z1, z2⟩
    · rw [if_neg hb]
      refine ptL_f n (i + 1) l _ h1 (fun x hx => ?_) (fun k a0 a1 => h3 k (by omega) (by omega))
      have := h2 x hx
      have : a x ≠ i := fun q => hb (e.mpr ⟨x, hx, q⟩)
      omega
def PRl (a : Int → Int) (c : Int) (s : Bool × Int × (Int → Int)) (t : Bool × Int × List Int) : Prop := s.1 = t.1 ∧ s.2.1 = t.2.1 ∧ (t.1 = true → ∀ q, 0 ≤ q → q < c → s.2.2 q = a (gD t.2.2 q))
theorem gD_app {l : List Int} {x q : Int} (h : q.toNat < l.length) : gD (l ++ [x]) q = gD l q := by
  unfold gD
  rw [List.getD_eq_getElem?_getD, List.getD_eq_getElem?_getD, List.getElem?_append_left h]
theorem gD_end {l : List Int} {x q : Int} (h : q.toNat = l.length) : gD (l ++ [x]) q = x := by
  unfold gD
  rw [List.getD_eq_getElem?_getD, List.getElem?_append_right (by omega), h, Nat.sub_self]
  rfl
section PT
variable {a : Int → Int} {Q : (Int → Int) → Int → (Int → Int)} {ni c : Int} {h0 : Int → Int}
def fQ (a : Int → Int) (Q : (Int → Int) → Int → (Int → Int)) (h : Int → Int) (l : List Int) : Int → Int := l.foldl (fun h x => Q h (a x)) h
theorem ptR_s (hni : 0 ≤ ni) : ∀ (m : Nat) (left dp : Int) (rem pre : List Int) (s : (Int → Int) × (Bool × Int × (Int → Int))) (t : Bool × Int × List Int), 0 ≤ left → rem.Pairwise (fun x y => a x < a y) → (∀ x, x ∈ rem → 0 ≤ a x ∧ a x < ni) → (∀ k, 0 ≤ k → k < ni → (bs left k = true ↔ ∃ x, x ∈ rem ∧ a x = k)) → (pre.length : Int) = dp → dp + m = c → (∀ q, 0 ≤ q → q < dp → s.1 q = a (gD pre q)) → PRl a c s.2 t → (∀ q, 0 ≤ q → q < dp → (ptR Q ni m left dp (fQ a Q h0 pre) s).1 q = s.1 q) ∧ PRl a c (ptR Q ni m left dp (fQ a Q h0 pre) s).2 (bst (fun l => fQ a Q h0 l 0) ((perms m rem).map (fun l => pre ++ l)) t)
  | 0, left, dp, rem, pre, s, t, _, _, _, _, h5, h6, h7, h8 => by
    refine ⟨fun q _ _ => rfl, ?_⟩
    simp only [perms, List.map_cons, List.map_nil, List.append_nil, bst, ptR]
    unfold ptT
    rw [h8.1, h8.2.1]
    by_cases hq : t.1 = false ∨ fQ a Q h0 pre 0 < t.2.1
    · rw [if_pos hq, if_pos hq]
      refine ⟨rfl, rfl, fun _ q x y => ?_⟩
      show cpF s.2.2.2 s.1 0 dp q = a (gD pre q)
      unfold cpF
      rw [if_pos (by omega), show q - 0 = q by omega]
      exact h7 q x (by omega)
    · rw [if_neg hq, if_neg hq]
      exact h8
  | m + 1, left, dp, rem, pre, s, t, h1, h2, h3, h4, h5, h6, h7, h8 => by
    simp only [ptR]
    rw [ptL_f (a := a) ni.toNat 0 rem s h2 (fun x hx => by have := h3 x hx; omega) (fun k x y => h4 k x (by omega))]
    simp only [perms]
    have key : ∀ (l : List Int) (s : (Int → Int) × (Bool × Int × (Int → Int))) (t : Bool × Int × List Int), (∀ x, x ∈ l → x ∈ rem) → (∀ q, 0 ≤ q → q < dp → s.1 q = a (gD pre q)) → PRl a c s.2 t → (∀ q, 0 ≤ q → q < dp → (l.foldl (fun s x => ptR Q ni m (left - ((2 ^ (a x).toNat : Nat) : Int)) (dp + 1) (Q (fQ a Q h0 pre) (a x)) (bc_u s.1 dp (a x), s.2)) s).1 q = s.1 q) ∧ PRl a c (l.foldl (fun s x => ptR Q ni m (left - ((2 ^ (a x).toNat : Nat) : Int)) (dp + 1) (Q (fQ a Q h0 pre) (a x)) (bc_u s.1 dp (a x), s.2)) s).2 (bst (fun l => fQ a Q h0 l 0) ((l.flatMap (fun x => (perms m (rem.filter (fun y => decide (y ≠ x)))).map (fun l => x :: l))).map (fun l => pre ++ l)) t) := by
      intro l
      induction l with
      | nil => intro s t _ _ h; exact ⟨fun _ _ _ => rfl, h⟩
      | cons x r ih =>
        intro s t g1 g2 g3
        have hx := g1 x (List.mem_cons_self)
        have hax := h3 x hx
        have hbx : bs left (a x) = true := (h4 (a x) hax.1 hax.2).mpr ⟨x, hx, rfl⟩
        rw [List.foldl_cons, List.flatMap_cons, List.map_append, bst_app, List.map_map]
        have hfun : ((fun l => pre ++ l) ∘ fun l => x :: l) = (fun l => (pre ++ [x]) ++ l) := by
          funext l
          simp only [Function.comp, List.append_assoc, List.cons_append, List.nil_append]
        rw [hfun]
        have hQ : Q (fQ a Q h0 pre) (a x) = fQ a Q h0 (pre ++ [x]) := by
          unfold fQ
          rw [List.foldl_append]
          rfl
        rw [hQ]
        have step := ptR_s hni m (left - ((2 ^ (a x).toNat : Nat) : Int)) (dp + 1) (rem.filter (fun y => decide (y ≠ x))) (pre ++ [x]) (bc_u s.1 dp (a x), s.2) t (by
            have := bs_sub_nn h1 hbx
            omega) (h2.filter _) (fun y hy => h3 y (List.mem_filter.mp hy).1) (fun k x0 y0 => by
            rw [bs_sub_in h1 hax.1 x0 hbx]
            simp only [Bool.and_eq_true, Bool.not_eq_true', decide_eq_false_iff_not]
            rw [h4 k x0 y0]
            constructor
            · rintro ⟨⟨z, z1, z2⟩, z3⟩
              refine ⟨z, List.mem_filter.mpr ⟨z1, ?_⟩, z2⟩
              rw [decide_eq_true_iff]
              intro e; subst e; exact z3 z2.symm
            · rintro ⟨z, z1, z2⟩
              have z3 := List.mem_filter.mp z1
              have z4 := of_decide_eq_true z3.2
              refine ⟨⟨z, z3.1, z2⟩, fun e => ?_⟩
              rcases pair_lt h2 z3.1 hx z4 with q | q <;> omega) (by
            rw [List.length_append]
            simp only [List.length_cons, List.length_nil]
            omega) (by omega) (fun q x0 y0 => by
            by_cases e : q = dp
            · subst e
              show bc_u s.1 _ (a x) _ = _
              rw [u_at, gD_end (by omega)]
            · show bc_u s.1 dp (a x) q = _
              rw [u_ne e, gD_app (by omega)]
              exact g2 q x0 (by omega)) g3
        have s1 : ∀ q, 0 ≤ q → q < dp → (ptR Q ni m (left - ((2 ^ (a x).toNat : Nat) : Int)) (dp + 1) (fQ a Q h0 (pre ++ [x])) (bc_u s.1 dp (a x), s.2)).1 q = s.1 q := fun q x0 y0 => by
          rw [step.1 q x0 (by omega)]
          show bc_u s.1 dp (a x) q = _
          rw [u_ne (by omega)]
        have nx := ih (ptR Q ni m (left - ((2 ^ (a x).toNat : Nat) : Int)) (dp + 1) (fQ a Q h0 (pre ++ [x])) (bc_u s.1 dp (a x), s.2)) _ (fun z hz => g1 z (List.mem_cons_of_mem _ hz)) (fun q x0 y0 => by rw [s1 q x0 y0]; exact g2 q x0 y0) step.2
        exact ⟨fun q x0 y0 => by rw [nx.1 q x0 y0]; exact s1 q x0 y0, nx.2⟩
    exact key rem s t (fun _ h => h) h7 h8
end PT
