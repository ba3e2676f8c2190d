/-! plans put together -/
theorem bs_cnt_le {s : Int} : ∀ (m n : Nat), n ≤ m → bs_cnt s n ≤ bs_cnt s m
  | 0, n, h => by rw [show n = 0 by omega]; exact Int.le_refl _
  | m + 1, n, h => by
    by_cases e : n = m + 1
    · subst e; exact Int.le_refl _
    · have := bs_cnt_le (s := s) m n (by omega)
      simp only [bs_cnt]
      split <;> omega
theorem bs_cnt_lt {s : Int} {n m k : Nat} (h1 : n ≤ k) (h2 : k < m) (hb : bs s k = true) : bs_cnt s n < bs_cnt s m := by
  have a := bs_cnt_le (s := s) k n h1
  have b := bs_cnt_le (s := s) m (k + 1) (by omega)
  simp only [bs_cnt] at b
  rw [if_pos hb] at b
  omega
theorem bs_cnt_same {s : Int} : ∀ (m n : Nat), n ≤ m → (∀ k : Nat, n ≤ k → k < m → bs s k = false) → bs_cnt s m = bs_cnt s n
  | 0, n, h, _ => by rw [show n = 0 by omega]
  | m + 1, n, h, hk => by
    by_cases e : n = m + 1
    · subst e; rfl
    · simp only [bs_cnt]
      rw [bs_cnt_same m n (by omega) (fun k a b => hk k a (by omega)), hk m (by omega) (by omega)]
      simp
/-- the first c of a set stand in their order -/
def OFs (s i c : Int) (g : Int → Int) : Prop := (∀ q, 0 ≤ q → q < c → 0 ≤ g q ∧ g q < i ∧ bs s (g q) = true) ∧ (∀ q q', 0 ≤ q → q < q' → q' < c → g q < g q') ∧ ∀ k, 0 ≤ k → k < i → bs s k = true → ∃ q, 0 ≤ q ∧ q < c ∧ g q = k
theorem or_first_s {s ni : Int} (hb : bs_cnt s 16 ≤ 5) (hni : ni ≤ 16) : ∀ (n : Nat) (i c : Int) (g : Int → Int), i + n = ni → 0 ≤ i → 0 ≤ c → c = bs_cnt s i.toNat → OFs s i c g → (or_first s n i c g).1 = bs_cnt s ni.toNat ∧ OFs s ni (or_first s n i c g).1 (or_first s n i c g).2
  | 0, i, c, g, h1, h2, h3, h4, h5 => by
    have e : i = ni := by omega
    subst e
    exact ⟨h4, h5⟩
  | n + 1, i, c, g, h1, h2, h3, h4, h5 => by
    have hn : (i + 1).toNat = i.toNat + 1 := by omega
    have hni' : ((i.toNat : Nat) : Int) = i := by omega
    simp only [or_first]
    by_cases hc : c < 5
    · rw [if_pos hc]
      by_cases hq : bs s i = true
      · rw [if_pos hq]
        refine or_first_s hb hni n (i + 1) (c + 1) _ (by omega) (by omega) (by omega) ?_ ⟨fun q a b => ?_, fun q q' a b d => ?_, fun k a b d => ?_⟩
        · rw [hn]; simp only [bs_cnt]; rw [hni', if_pos hq, h4]
        · by_cases e : q = c
          · subst e; rw [u_at]; exact ⟨h2, by omega, hq⟩
          · rw [u_ne e]; have := h5.1 q a (by omega); exact ⟨this.1, by omega, this.2.2⟩
        · by_cases e : q' = c
          · subst e; rw [u_at, u_ne (by omega)]; exact (h5.1 q a (by omega)).2.1
          · rw [u_ne e, u_ne (by omega)]; exact h5.2.1 q q' a b (by omega)
        · by_cases e : k = i
          · subst e; exact ⟨c, by omega, by omega, by rw [u_at]⟩
          · obtain ⟨q, x, y, z⟩ := h5.2.2 k a (by omega) d
            exact ⟨q, x, by omega, by rw [u_ne (by omega)]; exact z⟩
      · rw [if_neg hq]
        refine or_first_s hb hni n (i + 1) c g (by omega) (by omega) h3 ?_ ⟨fun q a b => ?_, h5.2.1, fun k a b d => ?_⟩
        · rw [hn]; simp only [bs_cnt]; rw [hni', if_neg hq, h4]; omega
        · have := h5.1 q a b; exact ⟨this.1, by omega, this.2.2⟩
        · by_cases e : k = i
          · subst e; exact absurd d hq
          · exact h5.2.2 k a (by omega) d
    · rw [if_neg hc]
      have hno : ∀ k : Nat, i.toNat ≤ k → k < 16 → bs s k = false := fun k a b => by
        cases hk : bs s k
        · rfl
        · have := bs_cnt_lt (m := 16) a b hk; omega
      refine ⟨?_, fun q a b => ?_, h5.2.1, fun k a b d => ?_⟩
      · rw [bs_cnt_same ni.toNat i.toNat (by omega) (fun k a b => hno k a (by omega))]; exact h4
      · have := h5.1 q a b; exact ⟨this.1, by show g q < ni; omega, this.2.2⟩
      · by_cases e : k < i
        · exact h5.2.2 k a e d
        · have := hno k.toNat (by omega) (by omega)
          rw [show ((k.toNat : Nat) : Int) = k by omega, d] at this
          exact absurd this (by decide)
theorem bst_true {T : List Int → Int} : ∀ (x : List (List Int)) (s : Bool × Int × List Int), s.1 = true → (bst T x s).1 = true
  | [], _, h => h
  | l :: r, s, h => by
    simp only [bst]
    refine bst_true r _ ?_
    split
    · rfl
    · exact h
theorem bst_init {T : List Int → Int} {l : List Int} {r : List (List Int)} {e e' : Int} {w w' : List Int} : bst T (l :: r) (false, e, w) = bst T (l :: r) (false, e', w') ∧ (bst T (l :: r) (false, e, w)).1 = true := by
  simp only [bst]
  rw [if_pos (Or.inl trivial), if_pos (Or.inl trivial)]
  exact ⟨rfl, bst_true _ _ rfl⟩
/-- what a client's steps reach in the class's memory -/
def HY (M : bc_M) (z j : Int) (dk fr pop : Int → Int) (nd ni : Int) (W L : Int → Int → Int) : Prop := SM M z ∧ (M 6 z 2 = nd ∧ M 6 z 3 = ni) ∧ AG (M 9 z) dk ni ∧ AG (M 7 z) fr nd ∧ AG (M 8 z) pop ni ∧ ∀ i, 0 ≤ i → i < ni → ∀ t, pg_wait M j i t = W i t ∧ pg_listen M j i t = L i t
theorem HY.c {M M' : bc_M} {z j x : Int} {dk fr pop : Int → Int} {nd ni : Int} {W L : Int → Int → Int} (h : HY M z j dk fr pop nd ni W L) (e : Fr (CLP x) M M') : HY M' z j dk fr pop nd ni W L := by
  have e' : ∀ k q, k ≠ 12 → k ≠ 13 → k ≠ 14 → M' k q = M k q := fun k q a b c => e k q (by unfold CLP; omega)
  have e17 : ∀ q, M' 17 q = M 17 q := fun q => e' 17 q (by decide) (by decide) (by decide)
  have e18 : ∀ q, M' 18 q = M 18 q := fun q => e' 18 q (by decide) (by decide) (by decide)
  have e19 : ∀ q, M' 19 q = M 19 q := fun q => e' 19 q (by decide) (by decide) (by decide)
  have e21 : ∀ q, M' 21 q = M 21 q := fun q => e' 21 q (by decide) (by decide) (by decide)
  unfold HY SM at h ⊢
  rw [e' 6 z (by decide) (by decide) (by decide), e' 7 z (by decide) (by decide) (by decide), e' 8 z (by decide) (by decide) (by decide), e' 9 z (by decide) (by decide) (by decide), e' 10 z (by decide) (by decide) (by decide)]
  refine ⟨h.1, h.2.1, h.2.2.1, h.2.2.2.1, h.2.2.2.2.1, fun i a b t => ?_⟩
  rw [← (h.2.2.2.2.2 i a b t).1, ← (h.2.2.2.2.2 i a b t).2]
  constructor
  · unfold pg_wait pg_from pg_nx pg_sx pg_on
    rw [e17, e18, e19, e21]
  · unfold pg_listen pg_st pg_wait pg_from pg_nx pg_sx pg_on
    rw [e17, e18, e19, e21]
/-- a step in the class is a step of the 38 numbers -/
theorem ask_h {M : bc_M} {x z j cap pol i n : Int} {dk fr pop : Int → Int} {nd ni : Int} {W L : Int → Int → Int} {g : Int → Int} (h : HY M z j dk fr pop nd ni W L) (hE : CE M x cap pol g) (hq : QI g ni n) (hi : 0 ≤ i ∧ i < ni) : CE (askM M x z j i) x cap pol (qG cap pol ni pop dk fr W L g i) ∧ askR M x j i = qR W g i := by
  obtain ⟨h1, h2, h3, h4, h5, h6⟩ := h
  have ha := ask_q (j := j) h1 h2.2 hE hq hi
  have hsv : SV (M 9 z) (M 7 z) nd ni (M 6 z 0) (M 6 z 1) := by
    have := h1.1
    rw [h2.1, h2.2] at this
    exact this
  rw [qG_c (W' := W) (L' := L) hsv h3 h4 h5 (h6 i hi.1 hi.2 _).1 (h6 i hi.1 hi.2 _).2] at ha
  refine ⟨ha.1, ?_⟩
  rw [ha.2]
  unfold qR
  show (if bs (g 5) i = true then 0 else pg_wait M j i (g 0)) = _
  rw [(h6 i hi.1 hi.2 _).1]
theorem ta_h {x z j cap pol sg ln : Int} {dk fr pop : Int → Int} {nd ni : Int} {W L : Int → Int → Int} {a g : Int → Int} (hv : SV dk fr nd ni sg ln) (hWL : ∀ i, 0 ≤ i → i < ni → ∀ t, (0 ≤ W i t ∧ W i t ≤ 9000) ∧ 0 ≤ L i t ∧ L i t ≤ 9000) : ∀ (l : List Int) (q n : Int) (M : bc_M) (h : Int → Int), HY M z j dk fr pop nd ni W L → CE M x cap pol h → QI h ni n → (∀ y : Int, 0 ≤ y → y < l.length → g (q + y) = a (gD l y) ∧ 0 ≤ g (q + y) ∧ g (q + y) < ni) → CE (taM x z j g l.length q M) x cap pol (fQ a (qG cap pol ni pop dk fr W L) h l)
  | [], q, n, M, h, hy, hE, hq, hg => hE
  | y :: r, q, n, M, h, hy, hE, hq, hg => by
    simp only [List.length_cons, taM]
    have h0 := hg 0 (by omega) (by simp only [List.length_cons]; omega)
    rw [Int.add_zero] at h0
    have ey : g q = a y := h0.1
    have ha := ask_h (i := g q) hy hE hq h0.2
    have hw := hWL (g q) h0.2.1 h0.2.2 (h 0)
    have hq' := QI.st (cap := cap) (pol := pol) (pop := pop) (W := W) (L := L) hv hq h0.2 hw.1 hw.2
    have ih := ta_h (x := x) (a := a) (g := g) hv hWL r (q + 1) (n + 1) (askM M x z j (g q)) _ (hy.c askM_fr) ha.1 hq' (fun w a0 b0 => by
      have := hg (w + 1) (by omega) (by simp only [List.length_cons]; omega)
      rw [show q + (w + 1) = q + 1 + w by omega] at this
      have e : gD (y :: r) (w + 1) = gD r w := by
        unfold gD
        rw [show (w + 1).toNat = w.toNat + 1 by omega]
        rfl
      rw [e] at this
      exact this)
    rw [ey] at ih ⊢
    exact ih
theorem rg_mem {k : Nat} {x : Int} : x ∈ rg k ↔ 0 ≤ x ∧ x < k := by
  unfold rg
  rw [List.mem_map]
  constructor
  · rintro ⟨y, h1, h2⟩
    have := List.mem_range.mp h1
    omega
  · rintro ⟨h1, h2⟩
    exact ⟨x.toNat, List.mem_range.mpr (by omega), by omega⟩
theorem rg_pw {a : Int → Int} {k : Nat} (h : MO a k) : (rg k).Pairwise (fun x y => a x < a y) := by
  unfold rg
  rw [List.pairwise_map]
  refine (List.pairwise_lt_range (n := k)).imp_of_mem (fun {x y} hx hy hxy => ?_)
  have := List.mem_range.mp hy
  exact h x y (by omega) (by omega) (by omega)
/-- the plan -/
theorem plan_eq {M : bc_M} {c s cap pol sg ln n : Int} {dk fr pop : Int → Int} {nd ni : Int} {W L : Int → Int → Int} {h0 td pn : Int → Int} {pt : Int} (hv : SV dk fr nd ni sg ln) (hWL : ∀ i, 0 ≤ i → i < ni → ∀ t, (0 ≤ W i t ∧ W i t ≤ 9000) ∧ 0 ≤ L i t ∧ L i t ≤ 9000) (hy : HY M 1 0 dk fr pop nd ni W L) (hE : CE M (4 * 1 + c) cap pol h0) (hq : QI h0 ni n) (hs : 0 ≤ s ∧ s < p2 ni) (hsn : bs_cnt s 16 = bs_cnt s ni.toNat) (hc : 1 ≤ bs_cnt s 16 ∧ bs_cnt s 16 ≤ 5) : (plR M c s).1 = (ptR (qG cap pol ni pop dk fr W L) ni (bs_cnt s 16).toNat s 0 h0 (td, (false, pt, pn))).2.2.1 ∧ ∀ q, 0 ≤ q → q < bs_cnt s 16 → (plR M c s).2 q = (ptR (qG cap pol ni pop dk fr W L) ni (bs_cnt s 16).toNat s 0 h0 (td, (false, pt, pn))).2.2.2 q := by
  have hni := hv.2.1
  have ho := or_first_s (s := s) (ni := ni) hc.2 hni.2 ni.toNat 0 0 (M 32 0) (by omega) (by omega) (by omega) rfl ⟨fun q a b => by omega, fun q q' a b d => by omega, fun k a b => by omega⟩
  rw [← hsn] at ho
  unfold plR
  rw [hy.2.1.2]
  generalize or_first s ni.toNat 0 0 (M 32 0) = R at ho ⊢
  obtain ⟨cc, a⟩ := R
  simp only at ho ⊢
  obtain ⟨o0, o1, o2, o3⟩ := ho
  subst o0
  have hmo : MO a (bs_cnt s 16) := o2
  have hlen : (rg (bs_cnt s 16).toNat).length = (bs_cnt s 16).toNat := by unfold rg; rw [List.length_map, List.length_range]
  have hT : ∀ (g : Int → Int) (l : List Int), l.length = (bs_cnt s 16).toNat → ALo a (bs_cnt s 16) g (gD l) → taM (4 * 1 + c) 1 0 g (bs_cnt s 16).toNat 0 M 12 (4 * 1 + c) 2 = fQ a (qG cap pol ni pop dk fr W L) h0 l 0 := fun g l hl hg => by
    have := ta_h (x := 4 * 1 + c) (z := 1) (j := 0) (cap := cap) (pol := pol) (pop := pop) (a := a) (g := g) hv hWL l 0 n M h0 hy hE hq (fun y y0 y1 => by
      have hgy := hg y y0 (by omega)
      rw [Int.zero_add]
      have hr := o1 (gD l y) hgy.2.1 hgy.2.2
      rw [hgy.1]
      exact ⟨rfl, hr.1, hr.2.1⟩)
    rw [hl] at this
    exact this.2.1.1
  have h120 := orb_all ((bs_cnt s 16).toNat - 1) (by omega)
  rw [show (bs_cnt s 16).toNat - 1 + 1 = (bs_cnt s 16).toNat by omega, show (((bs_cnt s 16).toNat : Nat) : Int) = bs_cnt s 16 by omega] at h120
  have hA := pl_orb (T := fun l => fQ a (qG cap pol ni pop dk fr W L) h0 l 0) (tm := fun g => taM (4 * 1 + c) 1 0 g (bs_cnt s 16).toNat 0 M 12 (4 * 1 + c) 2) hc.1 hmo hT 120 0 a (M 30 0 0) (M 31 0) (rg (bs_cnt s 16).toNat) (false, M 30 0 0, []) hlen (by omega) (fun q x y => by
    have e : gD (rg (bs_cnt s 16).toNat) q = q := gD_map (f := fun q => q) x y
    rw [e]
    exact ⟨rfl, x, y⟩) ⟨fun _ => rfl, fun _ => rfl⟩ rfl (fun q => absurd q Bool.false_ne_true)
  have hmem : ∀ k, 0 ≤ k → k < ni → (bs s k = true ↔ ∃ x, x ∈ rg (bs_cnt s 16).toNat ∧ a x = k) := fun k x y => by
    constructor
    · intro hk
      obtain ⟨q, q0, q1, q2⟩ := o3 k x y hk
      exact ⟨q, rg_mem.mpr ⟨q0, by omega⟩, q2⟩
    · rintro ⟨q, q0, q1⟩
      have := rg_mem.mp q0
      rw [← q1]
      exact (o1 q this.1 (by omega)).2.2
  have hB := ptR_s (a := a) (Q := qG cap pol ni pop dk fr W L) (ni := ni) (c := bs_cnt s 16) (h0 := h0) (by omega) (bs_cnt s 16).toNat s 0 (rg (bs_cnt s 16).toNat) [] (td, (false, pt, pn)) (false, pt, []) hs.1 (rg_pw (by rw [show (((bs_cnt s 16).toNat : Nat) : Int) = bs_cnt s 16 by omega]; exact hmo)) (fun x hx => by
    have := rg_mem.mp hx
    have := o1 x this.1 (by omega)
    exact ⟨this.1, this.2.1⟩) hmem rfl (by omega) (fun q x y => by omega) ⟨rfl, rfl, fun q => absurd q Bool.false_ne_true⟩
  have hid : (perms (bs_cnt s 16).toNat (rg (bs_cnt s 16).toNat)).map (fun l => [] ++ l) = perms (bs_cnt s 16).toNat (rg (bs_cnt s 16).toNat) := by
    simp only [List.nil_append, List.map_id']
  rw [hid, ← h120] at hB
  have hi := bst_init (T := fun l => fQ a (qG cap pol ni pop dk fr W L) h0 l 0) (l := rg (bs_cnt s 16).toNat) (r := (if (oL (bs_cnt s 16) (rg (bs_cnt s 16).toNat)).1 then orb (bs_cnt s 16) 119 (oL (bs_cnt s 16) (rg (bs_cnt s 16).toNat)).2 else [])) (e := M 30 0 0) (e' := pt) (w := []) (w' := [])
  have ho120 : orb (bs_cnt s 16) 120 (rg (bs_cnt s 16).toNat) = rg (bs_cnt s 16).toNat :: (if (oL (bs_cnt s 16) (rg (bs_cnt s 16).toNat)).1 then orb (bs_cnt s 16) 119 (oL (bs_cnt s 16) (rg (bs_cnt s 16).toNat)).2 else []) := rfl
  rw [← ho120] at hi
  rw [← hi.1] at hB
  have e0 : fQ a (qG cap pol ni pop dk fr W L) h0 [] = h0 := rfl
  rw [e0] at hB
  refine ⟨?_, fun q x y => ?_⟩
  · rw [← hA.1]; exact hB.2.2.1.symm
  · rw [(hA.2 hi.2 q x y).1]
    exact (hB.2.2.2 hi.2 q x y).symm
