/-! the divisions: the class steps from one to the next, the model tries them all -/
def sLn (k : Int) (l : List Int) : Bool × List Int := ((sz_next k (gD l)).1, (List.range k.toNat).map (fun (i : Nat) => (sz_next k (gD l)).2 (i : Int)))
def orbS (k : Int) : Nat → List Int → List (List Int)
  | 0, _ => []
  | f + 1, l => l :: (if (sLn k l).1 then orbS k f (sLn k l).2 else [])
def cmL (D : Int → List (List Int)) (L : Int) : Nat → Int → List (List Int)
  | 0, _ => []
  | c + 1, x => (D (L - x)).map (fun l => x :: l) ++ cmL D L c (x + 1)
def comps : Nat → Int → List (List Int)
  | 0, L => [[L]]
  | m + 1, L => cmL (fun L' => comps m L') L (L - (m + 1)).toNat 1
def fstL (k n : Int) : List Int := (List.range k.toNat).map (fun (i : Nat) => sz_first k n (fun _ => 0) (i : Int))
theorem orbS_all : ∀ k, k < 4 → ∀ n, n < 16 → k ≤ n → orbS ((k + 1 : Nat) : Int) 455 (fstL ((k + 1 : Nat) : Int) ((n + 1 : Nat) : Int)) = comps k ((n + 1 : Nat) : Int) := by decide +kernel
theorem SZ.c {k ni : Int} {g h : Int → Int} (hg : SZ k ni g) (e : AG g h k) (hk : 0 ≤ k) : SZ k ni h := ⟨fun q a b => by rw [← e q a b]; exact hg.1 q a b, by rw [← sp_sum_ag _ (fun i a b => e i a (by omega))]; exact hg.2⟩
theorem sz_ones_c {k : Int} : ∀ (n : Nat) (t : Int) (g h : Int → Int), AG g h k → AG (sz_ones n t g) (sz_ones n t h) k
  | 0, _, _, _, e => e
  | n + 1, t, g, h, e => by
    simp only [sz_ones]
    exact sz_ones_c n (t + 1) _ _ e.u
theorem sz_nx_c {k : Int} {g h : Int → Int} (e : AG g h k) : ∀ (n : Nat) (t b : Int), t + 1 = n → t ≤ k - 2 → (sz_nx k n t b g).1 = (sz_nx k n t b h).1 ∧ AG (sz_nx k n t b g).2 (sz_nx k n t b h).2 k
  | 0, _, _, _, _ => ⟨rfl, e⟩
  | n + 1, t, b, h0, h1 => by
    simp only [sz_nx]
    rw [e t (by omega) (by omega)]
    by_cases hc : k - 1 - t < b
    · rw [if_pos hc, if_pos hc]
      exact ⟨rfl, (sz_ones_c _ _ _ _ e.u).u⟩
    · rw [if_neg hc, if_neg hc]
      exact sz_nx_c e n (t - 1) _ (by omega) (by omega)
theorem sz_next_c {k : Int} {g h : Int → Int} (hk : 1 ≤ k) (e : AG g h k) : (sz_next k g).1 = (sz_next k h).1 ∧ AG (sz_next k g).2 (sz_next k h).2 k := by
  unfold sz_next
  rw [e (k - 1) (by omega) (by omega)]
  exact sz_nx_c e _ _ _ (by omega) (by omega)
theorem sz_next_L {k : Int} {g : Int → Int} {l : List Int} (hk : 1 ≤ k) (e : AG g (gD l) k) : (sz_next k g).1 = (sLn k l).1 ∧ AG (sz_next k g).2 (gD (sLn k l).2) k := by
  have h := sz_next_c hk e
  refine ⟨h.1, fun q a b => ?_⟩
  rw [h.2 q a b]
  unfold sLn
  exact (gD_map (f := (sz_next k (gD l)).2) a b).symm
/-- the first best of a list of divisions -/
def bsd (W C : List Int → Int) : List (List Int) → Bool × Int × Int × List Int → Bool × Int × Int × List Int
  | [], s => s
  | l :: r, s => bsd W C r (if s.1 = false ∨ W l * s.2.2.1 < s.2.1 * C l then (true, W l, C l, l) else s)
theorem bsd_app {W C : List Int → Int} : ∀ (x y : List (List Int)) (s : Bool × Int × Int × List Int), bsd W C (x ++ y) s = bsd W C y (bsd W C x s)
  | [], _, _ => rfl
  | l :: r, y, s => by
    simp only [List.cons_append, bsd]
    exact bsd_app r y _
theorem bsd_true {W C : List Int → Int} : ∀ (x : List (List Int)) (s : Bool × Int × Int × List Int), s.1 = true → (bsd W C x s).1 = true
  | [], _, h => h
  | l :: r, s, h => by
    simp only [bsd]
    refine bsd_true r _ ?_
    split
    · rfl
    · exact h
theorem bsd_init {W C : List Int → Int} {l : List Int} {r : List (List Int)} {e e' f f' : Int} {w w' : List Int} : bsd W C (l :: r) (false, e, f, w) = bsd W C (l :: r) (false, e', f', w') ∧ (bsd W C (l :: r) (false, e, f, w)).1 = true := by
  simp only [bsd]
  rw [if_pos (Or.inl trivial), if_pos (Or.inl trivial)]
  exact ⟨rfl, bsd_true _ _ rfl⟩
theorem fb_orb {W C : (Int → Int) → Int} {Wl Cl : List Int → Int} {it dd : Int → Int} {ni k : Int} (hk : 1 ≤ k ∧ k ≤ 4) (hW : ∀ g l dk, l.length = k.toNat → SZ k ni g → AG g (gD l) k → W (as_out it dd g ni k.toNat 0 0 dk 0).1 = Wl l ∧ C (as_out it dd g ni k.toNat 0 0 dk 0).1 = Cl l) : ∀ (f : Nat) (n : Int) (g dk : Int → Int) (bw bc : Int) (bz : Int → Int) (l : List Int) (s : Bool × Int × Int × List Int), l.length = k.toNat → 0 ≤ n → SZ k ni g → AG g (gD l) k → (s.1 = false ↔ n = 0) → s.2.1 = bw → s.2.2.1 = bc → (s.1 = true → AG bz (gD s.2.2.2) k) → (bsd Wl Cl (orbS k f l) s).2.1 = (fb W C it dd ni k f n g dk bw bc bz).1 ∧ ((bsd Wl Cl (orbS k f l) s).1 = true → AG (fb W C it dd ni k f n g dk bw bc bz).2.2 (gD (bsd Wl Cl (orbS k f l) s).2.2.2) k)
  | 0, n, g, dk, bw, bc, bz, l, s, _, _, _, _, _, h5, _, h7 => ⟨h5, h7⟩
  | f + 1, n, g, dk, bw, bc, bz, l, s, h1, h2, h3, h4, hf, h5, h6, h7 => by
    have hlen' : (sLn k l).2.length = k.toNat := by simp only [sLn, List.length_map, List.length_range]
    have hn := sz_next_L hk.1 h4
    have hz := sz_next_ok hk h3
    have hw := hW g l dk h1 h3 h4
    simp only [orbS, fb, bsd]
    rw [hw.1, hw.2]
    have hcc : (s.1 = false ∨ Wl l * s.2.2.1 < s.2.1 * Cl l) ↔ (n = 0 ∨ Wl l * bc < bw * Cl l) := by rw [hf, h5, h6]
    by_cases hq : n = 0 ∨ Wl l * bc < bw * Cl l
    · rw [if_pos hq, if_pos hq, if_pos hq, if_pos (hcc.mpr hq)]
      by_cases e : (sz_next k g).1 = true
      · rw [if_pos e, if_pos (by rw [← hn.1]; exact e)]
        exact fb_orb hk hW f (n + 1) _ _ _ _ _ _ _ hlen' (by omega) hz hn.2 ⟨fun q => by simp at q, fun q => by omega⟩ rfl rfl (fun _ => h4)
      · rw [if_neg e, if_neg (by rw [← hn.1]; exact e)]
        exact ⟨rfl, fun _ => h4⟩
    · rw [if_neg hq, if_neg hq, if_neg hq, if_neg (fun z => hq (hcc.mp z))]
      by_cases e : (sz_next k g).1 = true
      · rw [if_pos e, if_pos (by rw [← hn.1]; exact e)]
        exact fb_orb hk hW f (n + 1) _ _ _ _ _ _ _ hlen' (by omega) hz hn.2 ⟨fun q => by have := hf.mp q; omega, fun q => by omega⟩ h5 h6 h7
      · rw [if_neg e, if_neg (by rw [← hn.1]; exact e)]
        exact ⟨h5, h7⟩
def PDl (k : Int) (s : Bool × Int × Int × (Int → Int) × (Int → Int)) (t : Bool × Int × Int × List Int) : Prop := s.1 = t.1 ∧ s.2.1 = t.2.1 ∧ s.2.2.1 = t.2.2.1 ∧ (t.1 = true → AG s.2.2.2.1 (gD t.2.2.2) k)
theorem dvR_s {W C : (Int → Int) → Int} {Wl Cl : List Int → Int} {it dd : Int → Int} {ni kk : Int} (hW : ∀ g l dk, l.length = kk.toNat → SZ kk ni g → AG g (gD l) kk → W (ma_out it dd g kk.toNat 0 0 dk) = Wl l ∧ C (ma_out it dd g kk.toNat 0 0 dk) = Cl l) : ∀ (m : Nat) (t L : Int) (pre : List Int) (g : Int → Int) (s : Bool × Int × Int × (Int → Int) × (Int → Int)) (σ : Bool × Int × Int × List Int), t + m + 1 = kk → (pre.length : Int) = t → (∀ q, 0 ≤ q → q < t → g q = gD pre q) → DG kk ni t L g → PDl kk s σ → PDl kk (dvR (dvF W C it dd kk) m t L (g, s)).2 (bsd Wl Cl ((comps m L).map (fun l => pre ++ l)) σ)
  | 0, t, L, pre, g, s, σ, h1, h2, h3, h4, h5 => by
    have hz := h4.sz (by omega) (by omega)
    have hag : AG (bc_u g t L) (gD (pre ++ [L])) kk := fun q a b => by
      by_cases e : q = t
      · subst e; rw [u_at, gD_end (by omega)]
      · rw [u_ne e, gD_app (by omega)]; exact h3 q a (by omega)
    have hw := hW (bc_u g t L) (pre ++ [L]) s.2.2.2.2 (by rw [List.length_append]; simp only [List.length_cons, List.length_nil]; omega) hz hag
    simp only [comps, List.map_cons, List.map_nil, bsd, dvR]
    unfold dvF
    rw [hw.1, hw.2, h5.1, h5.2.1, h5.2.2.1]
    by_cases hq : σ.1 = false ∨ Wl (pre ++ [L]) * σ.2.2.1 < σ.2.1 * Cl (pre ++ [L])
    · rw [if_pos hq, if_pos hq]
      refine ⟨rfl, rfl, rfl, fun _ q a b => ?_⟩
      show cpF s.2.2.2.1 (bc_u g t L) 0 kk q = _
      unfold cpF
      rw [if_pos (by omega), show q - 0 = q by omega]
      exact hag q a b
    · rw [if_neg hq, if_neg hq]
      exact ⟨rfl, rfl, rfl, h5.2.2.2⟩
  | m + 1, t, L, pre, g, s, σ, h1, h2, h3, h4, h5 => by
    have key : ∀ (c : Nat) (x : Int) (g' : Int → Int) (s' : Bool × Int × Int × (Int → Int) × (Int → Int)) (σ' : Bool × Int × Int × List Int), x + c = L - m → 1 ≤ x → (∀ q, q < t → g' q = g q) → PDl kk s' σ' → PDl kk (dvL (fun L' => dvR (dvF W C it dd kk) m (t + 1) L') t L c x (g', s')).2 (bsd Wl Cl ((cmL (fun L' => comps m L') L c x).map (fun l => pre ++ l)) σ') := by
      intro c
      induction c with
      | zero => intro x g' s' σ' _ _ _ h; exact h
      | succ c ih =>
        intro x g' s' σ' g1 g2 g3 g4
        simp only [dvL, cmL]
        rw [List.map_append, bsd_app, List.map_map]
        have hfun : ((fun l => pre ++ l) ∘ fun l => x :: l) = (fun l => (pre ++ [x]) ++ l) := by
          funext l
          simp only [Function.comp, List.append_assoc, List.cons_append, List.nil_append]
        rw [hfun]
        have step := dvR_s hW m (t + 1) (L - x) (pre ++ [x]) (bc_u g' t x) s' σ' (by omega) (by rw [List.length_append]; simp only [List.length_cons, List.length_nil]; omega) (fun q a b => by
          by_cases e : q = t
          · subst e; rw [u_at, gD_end (by omega)]
          · rw [u_ne e, gD_app (by omega), g3 q (by omega)]; exact h3 q a (by omega)) ((h4.c (by omega) g3).st (by omega) (x := x) g2 (by omega)) g4
        refine ih (x + 1) (dvR (dvF W C it dd kk) m (t + 1) (L - x) (bc_u g' t x, s')).1 (dvR (dvF W C it dd kk) m (t + 1) (L - x) (bc_u g' t x, s')).2 _ (by omega) (by omega) (fun q hq => ?_) step
        rw [dvR_lt _ _ _ _ q (by omega)]
        show bc_u g' t x q = g q
        rw [u_ne (by omega)]
        exact g3 q hq
    simp only [dvR, comps]
    have := h4.2.2
    exact key (L - (m + 1)).toNat 1 g s σ (by omega) (by omega) (fun q hq => rfl) h5
