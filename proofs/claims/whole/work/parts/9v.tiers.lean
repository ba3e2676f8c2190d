/-! tiers put together -/
theorem sz_ones_v {x v : Int} : ∀ (n : Nat) (t : Int) (g h : Int → Int), (g x = h x ∨ (t ≤ x ∧ x < t + n)) → sz_ones n t g x = sz_ones n t h x
  | 0, t, g, h, e => by
    simp only [sz_ones]
    rcases e with e | e
    · exact e
    · omega
  | n + 1, t, g, h, e => by
    simp only [sz_ones]
    refine sz_ones_v (v := v) n (t + 1) _ _ ?_
    by_cases q : x = t
    · subst q; left; rw [u_at, u_at]
    · rcases e with e | e
      · left; rw [u_ne q, u_ne q]; exact e
      · right; omega
theorem sz_first_v {k n : Int} {g h : Int → Int} (hk : 1 ≤ k) : AG (sz_first k n g) (sz_first k n h) k := fun q a b => by
  unfold sz_first
  by_cases e : q = k - 1
  · subst e; rw [u_at, u_at]
  · rw [u_ne e, u_ne e]; exact sz_ones_v (v := 0) _ _ _ _ (Or.inr ⟨a, by omega⟩)
theorem sp_from_c {f g : Int → Int} : ∀ (n : Nat) (t : Int), (∀ q, t ≤ q → q < t + n → f q = g q) → sp_from f n t = sp_from g n t
  | 0, _, _ => rfl
  | n + 1, t, h => by
    simp only [sp_from]
    rw [h t (by omega) (by omega), sp_from_c n (t + 1) (fun q a b => h q (by omega) (by omega))]
theorem SZ.from {k ni : Int} {g : Int → Int} (h : SZ k ni g) : sp_from g k.toNat 0 = ni := by
  have := sp_from_sum (g := g) k.toNat 0
  rw [Nat.zero_add, h.2] at this
  simp only [sp_sum] at this
  rw [show ((0 : Nat) : Int) = 0 by rfl] at this
  omega
section TI
variable {dk fr pop frC popC itC ddC it dd : Int → Int} {nd ni sg ln k : Int}
/-- an order of the items and of the disks -/
def ORD (it dd : Int → Int) (nd ni : Int) : Prop := (∀ q, 0 ≤ q → q < ni → 0 ≤ it q ∧ it q < ni) ∧ (∀ i, 0 ≤ i → i < ni → ∃ q, 0 ≤ q ∧ q < ni ∧ it q = i) ∧ ∀ t, 0 ≤ t → t < nd → 0 ≤ dd t ∧ dd t < nd
theorem asg_sv {g dk9 : Int → Int} (h : SV dk fr nd ni sg ln) (hO : ORD it dd nd ni) (hk : 1 ≤ k ∧ k ≤ nd) (hz : SZ k ni g) : SV (ma_out it dd g k.toNat 0 0 dk9) fr nd ni sg ln := by
  refine ⟨h.1, h.2.1, h.2.2.1, h.2.2.2.1, h.2.2.2.2.1, fun i a b => ?_⟩
  obtain ⟨q, x, y, z⟩ := hO.2.1 i a b
  rw [← z]
  exact ma_out_r k.toNat 0 0 dk9 (fun q a b => ⟨by have := hz.1 q a (by omega); omega, hO.2.2 q a (by omega)⟩) (fun q a b => by omega) q x (by rw [hz.from]; omega)
theorem asg_ag {g g' dk9 dk8 : Int → Int} (hO : ORD it dd nd ni) (hk : 1 ≤ k ∧ k ≤ nd) (hz : SZ k ni g) (hg : AG g g' k) (hi : AG it itC ni) (hd : AG dd ddC nd) : AG (ma_out it dd g k.toNat 0 0 dk9) (ma_out itC ddC g' k.toNat 0 0 dk8) ni := fun i a b => by
  obtain ⟨q, x, y, z⟩ := hO.2.1 i a b
  rw [← z]
  exact ma_out_ag k.toNat 0 0 dk9 dk8 (fun q a b => ⟨by have := hz.1 q a (by omega); omega, hg q a (by omega), hd q a (by omega)⟩) (fun q a b => hi q a (by rw [hz.from] at b; omega)) (fun q a b => by omega) q x (by rw [hz.from]; omega)
theorem asg_as {g dk9 : Int → Int} {mv : Int} (hk : 1 ≤ k) (hz : SZ k ni g) : (as_out itC ddC g ni k.toNat 0 0 dk9 mv).1 = ma_out itC ddC g k.toNat 0 0 dk9 := as_out_s _ _ _ _ _ (fun q a b => by have := hz.1 q a (by omega); omega) (by rw [hz.from]; omega)
/-- the best division -/
theorem tiers_eq {dkC g0 bzC dk9 g1 bz : Int → Int} {bwC bcC bw bl : Int} (h : SV dk fr nd ni sg ln) (hf : AG frC fr nd) (hp : AG popC pop ni) (hO : ORD it dd nd ni) (hi : AG it itC ni) (hd : AG dd ddC nd) (hk : 1 ≤ k ∧ k ≤ nd) (hkn : k ≤ ni) : (fb (fun dk => sp_W dk frC popC nd ni sg ln 0) (fun dk => sp_C dk frC nd ni sg ln) itC ddC ni k 455 0 (sz_first k ni g0) dkC bwC bcC bzC).1 = (fdR (fun dk => sp_WS dk fr pop nd ni sg ln 0) (fun dk => sp_S dk fr nd ni + sg * ln) it dd dk9 k ni g1 bw bl bz).2.1 ∧ AG (fb (fun dk => sp_W dk frC popC nd ni sg ln 0) (fun dk => sp_C dk frC nd ni sg ln) itC ddC ni k 455 0 (sz_first k ni g0) dkC bwC bcC bzC).2.2 (fdR (fun dk => sp_WS dk fr pop nd ni sg ln 0) (fun dk => sp_S dk fr nd ni + sg * ln) it dd dk9 k ni g1 bw bl bz).2.2.2.1 k := by
  have hnd := h.1
  have hni := h.2.1
  have hk4 : 1 ≤ k ∧ k ≤ 4 := by omega
  have hM : ∀ g l dk8, l.length = k.toNat → SZ k ni g → AG g (gD l) k → (fun dk => sp_WS dk fr pop nd ni sg ln 0) (ma_out it dd g k.toNat 0 0 dk8) = sp_WS (ma_out it dd (gD l) k.toNat 0 0 (fun _ => 0)) fr pop nd ni sg ln 0 ∧ (fun dk => sp_S dk fr nd ni + sg * ln) (ma_out it dd g k.toNat 0 0 dk8) = sp_S (ma_out it dd (gD l) k.toNat 0 0 (fun _ => 0)) fr nd ni + sg * ln := fun g l dk8 h1 h2 h3 => by
    have hs := asg_sv (dk9 := dk8) h hO hk h2
    have hs2 := asg_sv (dk9 := fun _ => 0) h hO hk (h2.c h3 (by omega))
    have ha := asg_ag (dk9 := dk8) (dk8 := fun _ => 0) hO hk h2 h3 AG.rf AG.rf
    constructor
    · show sp_WS _ fr pop nd ni sg ln 0 = _
      rw [← sp_W_eq hs, ← sp_W_eq hs2]
      exact sp_W_c hs ha AG.rf AG.rf
    · show sp_S _ fr nd ni + sg * ln = _
      rw [sp_S_c hs ha AG.rf]
  have hC : ∀ g l dk8, l.length = k.toNat → SZ k ni g → AG g (gD l) k → (fun dk => sp_W dk frC popC nd ni sg ln 0) (as_out itC ddC g ni k.toNat 0 0 dk8 0).1 = sp_WS (ma_out it dd (gD l) k.toNat 0 0 (fun _ => 0)) fr pop nd ni sg ln 0 ∧ (fun dk => sp_C dk frC nd ni sg ln) (as_out itC ddC g ni k.toNat 0 0 dk8 0).1 = sp_S (ma_out it dd (gD l) k.toNat 0 0 (fun _ => 0)) fr nd ni + sg * ln := fun g l dk8 h1 h2 h3 => by
    have hs2 := asg_sv (dk9 := fun _ => 0) h hO hk (h2.c h3 (by omega))
    have ha := asg_ag (g := gD l) (g' := g) (dk9 := fun _ => 0) (dk8 := dk8) hO hk (h2.c h3 (by omega)) h3.sy hi hd
    rw [asg_as hk.1 h2]
    constructor
    · show sp_W _ frC popC nd ni sg ln 0 = _
      rw [← sp_W_eq hs2]
      exact (sp_W_c hs2 ha hf.sy hp.sy).symm
    · show sp_C _ frC nd ni sg ln = _
      unfold sp_C
      rw [sp_S_c hs2 ha hf.sy]
  have hz0 := sz_first_ok (g := g0) hk4 hkn
  have hlen : (fstL k ni).length = k.toNat := by unfold fstL; rw [List.length_map, List.length_range]
  have hag0 : AG (sz_first k ni g0) (gD (fstL k ni)) k := fun q a b => by
    rw [sz_first_v (h := fun _ => 0) hk.1 q a b]
    exact (gD_map (f := sz_first k ni (fun _ => 0)) a b).symm
  have hA := fb_orb (W := fun dk => sp_W dk frC popC nd ni sg ln 0) (C := fun dk => sp_C dk frC nd ni sg ln) (it := itC) (dd := ddC) (Wl := fun l => sp_WS (ma_out it dd (gD l) k.toNat 0 0 (fun _ => 0)) fr pop nd ni sg ln 0) (Cl := fun l => sp_S (ma_out it dd (gD l) k.toNat 0 0 (fun _ => 0)) fr nd ni + sg * ln) hk4 hC 455 0 (sz_first k ni g0) dkC bwC bcC bzC (fstL k ni) (false, bwC, bcC, []) hlen (by omega) hz0 hag0 ⟨fun _ => rfl, fun _ => rfl⟩ rfl rfl (fun q => absurd q Bool.false_ne_true)
  have hB := dvR_s (W := fun dk => sp_WS dk fr pop nd ni sg ln 0) (C := fun dk => sp_S dk fr nd ni + sg * ln) (it := it) (dd := dd) (Wl := fun l => sp_WS (ma_out it dd (gD l) k.toNat 0 0 (fun _ => 0)) fr pop nd ni sg ln 0) (Cl := fun l => sp_S (ma_out it dd (gD l) k.toNat 0 0 (fun _ => 0)) fr nd ni + sg * ln) hM (k - 1).toNat 0 ni [] g1 (false, bw, bl, bz, dk9) (false, bw, bl, []) (by omega) rfl (fun q a b => by omega) ⟨fun q a b => by omega, by simp only [Int.toNat_zero, sp_sum]; omega, by omega⟩ ⟨rfl, rfl, rfl, fun q => absurd q Bool.false_ne_true⟩
  have h455 := orbS_all (k - 1).toNat (by omega) (ni - 1).toNat (by omega) (by omega)
  rw [show (((k - 1).toNat + 1 : Nat) : Int) = k by omega, show (((ni - 1).toNat + 1 : Nat) : Int) = ni by omega] at h455
  have hid : (comps (k - 1).toNat ni).map (fun l => [] ++ l) = comps (k - 1).toNat ni := by
    simp only [List.nil_append, List.map_id']
  rw [hid, ← h455] at hB
  have ho : orbS k 455 (fstL k ni) = fstL k ni :: (if (sLn k (fstL k ni)).1 then orbS k 454 (sLn k (fstL k ni)).2 else []) := rfl
  have hin := bsd_init (W := fun l => sp_WS (ma_out it dd (gD l) k.toNat 0 0 (fun _ => 0)) fr pop nd ni sg ln 0) (C := fun l => sp_S (ma_out it dd (gD l) k.toNat 0 0 (fun _ => 0)) fr nd ni + sg * ln) (l := fstL k ni) (r := (if (sLn k (fstL k ni)).1 then orbS k 454 (sLn k (fstL k ni)).2 else [])) (e := bwC) (e' := bw) (f := bcC) (f' := bl) (w := []) (w' := [])
  rw [← ho] at hin
  rw [← hin.1] at hB
  unfold fdR
  refine ⟨?_, fun q a b => ?_⟩
  · rw [← hA.1]; exact hB.2.1.symm
  · rw [hA.2 hin.2 q a b]; exact (hB.2.2.2 hin.2 q a b).symm
/-- what is moved -/
theorem moved_eq {dkC g g' : Int → Int} (h : SV dk fr nd ni sg ln) (hdk : AG dkC dk ni) (hO : ORD it dd nd ni) (hI : INJ itC ni) (hi : AG it itC ni) (hd : AG dd ddC nd) (hk : 1 ≤ k ∧ k ≤ nd) (hz : SZ k ni g) (hg : AG g g' k) : AG (as_out itC ddC g ni k.toNat 0 0 dkC 0).1 (ma_out it dd g' k.toNat 0 0 dk) ni ∧ (as_out itC ddC g ni k.toNat 0 0 dkC 0).2 = mo_mv (ma_out it dd g' k.toNat 0 0 dk) dk ni.toNat 0 0 := by
  have hni := h.2.1
  have hA : AG (ma_out it dd g' k.toNat 0 0 dk) (ma_out itC ddC g k.toNat 0 0 dkC) ni := asg_ag hO hk (hz.c hg (by omega)) hg.sy hi hd
  refine ⟨by rw [asg_as hk.1 hz]; exact hA.sy, ?_⟩
  have hr : ∀ q, 0 ≤ q → q < ni → 0 ≤ itC q ∧ itC q < ni := fun q a b => by rw [← hi q a b]; exact hO.1 q a b
  rw [as_out_mv hI _ _ _ _ _ (fun q a b => by have := hz.1 q a (by omega); omega) (by omega) (by rw [hz.from]; omega), hz.from, mo_mv_s]
  have e1 := ssum_sum (A := fun q => if dkC (itC q) = ma_out itC ddC g k.toNat 0 0 dkC (itC q) then 0 else 1) ni.toNat 0
  have e2 := ssum_sum (A := fun i => if ma_out it dd g' k.toNat 0 0 dk i ≠ dk i then 1 else 0) ni.toNat 0
  have e3 := sp_perm (f := fun i => if dkC i = ma_out itC ddC g k.toNat 0 0 dkC i then 0 else 1) (it := itC) (N := ni.toNat) (fun q a b => by have := hr q a (by omega); omega) (fun q q' a b c d => hI q q' a (by omega) c (by omega)) (fun i a b => by
    obtain ⟨q, x, y, z⟩ := hO.2.1 i a (by omega)
    exact ⟨q, x, by omega, by rw [← hi q x y]; exact z⟩)
  have e4 : sp_sum (fun i => if dkC i = ma_out itC ddC g k.toNat 0 0 dkC i then 0 else 1) ni.toNat = sp_sum (fun i => if ma_out it dd g' k.toNat 0 0 dk i ≠ dk i then 1 else 0) ni.toNat := by
    refine sp_sum_ag _ (fun i a b => ?_)
    rw [hdk i a (by omega), ← hA i a (by omega)]
    by_cases e : dk i = ma_out it dd g' k.toNat 0 0 dk i
    · rw [if_pos e, if_neg (fun q => q e.symm)]
    · rw [if_neg e, if_pos (fun q => e q.symm)]
  simp only [sp_sum, Nat.zero_add] at e1 e2
  rw [show ((0 : Nat) : Int) = 0 by rfl] at e1 e2
  omega
end TI
