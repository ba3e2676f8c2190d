/-! a client's step over settings that agree -/
section QC
variable {dk fr dk' fr' pop pop' : Int → Int} {nd ni sg ln cap pol : Int}
theorem ql_c {g : Int → Int} {x y : Int} (h : SV dk fr nd ni sg ln) (hd : AG dk dk' ni) (hf : AG fr fr' nd) (hp : AG pop pop' ni) (hx : 0 ≤ x ∧ x < ni) (hy : 0 ≤ y ∧ y < ni) : ql pol pop dk fr g x y = ql pol pop' dk' fr' g x y := by
  have kx := h.2.2.2.2.2 x hx.1 hx.2
  have ky := h.2.2.2.2.2 y hy.1 hy.2
  unfold ql
  rw [hp x hx.1 hx.2, hp y hy.1 hy.2, ← hd x hx.1 hx.2, ← hd y hy.1 hy.2, hf (dk x) kx.1 kx.2, hf (dk y) ky.1 ky.2]
theorem qm_ag {lt lt' : Int → Int → Bool} {s : Int} (e : ∀ x y, 0 ≤ x → x < ni → 0 ≤ y → y < ni → lt x y = lt' x y) : ∀ (n : Nat) (i b : Int), 0 ≤ i → i + n ≤ ni → (b = -1 ∨ (0 ≤ b ∧ b < ni)) → qm lt s n i b = qm lt' s n i b
  | 0, _, _, _, _, _ => rfl
  | n + 1, i, b, h0, h1, hb => by
    simp only [qm]
    have hc : (bs s i = true ∧ (b = -1 ∨ lt i b = true)) ↔ (bs s i = true ∧ (b = -1 ∨ lt' i b = true)) := by
      rcases hb with q | q
      · exact ⟨fun x => ⟨x.1, Or.inl q⟩, fun x => ⟨x.1, Or.inl q⟩⟩
      · rw [e i b h0 (by omega) q.1 q.2]
    by_cases hq : bs s i = true ∧ (b = -1 ∨ lt i b = true)
    · rw [if_pos hq, if_pos (hc.mp hq)]
      exact qm_ag e n (i + 1) i (by omega) (by omega) (Or.inr ⟨h0, by omega⟩)
    · rw [if_neg hq, if_neg (fun z => hq (hc.mpr z))]
      exact qm_ag e n (i + 1) b (by omega) (by omega) hb
theorem qv_c {g : Int → Int} {i : Int} (h : SV dk fr nd ni sg ln) (hd : AG dk dk' ni) (hf : AG fr fr' nd) (hp : AG pop pop' ni) : qv cap pol ni pop dk fr g i = qv cap pol ni pop' dk' fr' g i := by
  have h2 := h.2.1
  unfold qv
  rw [qm_ag (fun x y a b c d => ql_c h hd hf hp ⟨a, b⟩ ⟨c, d⟩) ni.toNat 0 (-1) (by omega) (by omega) (Or.inl rfl)]
theorem qr_c {g : Int → Int} {i : Int} (h : SV dk fr nd ni sg ln) (hd : AG dk dk' ni) (hf : AG fr fr' nd) (hp : AG pop pop' ni) : qr cap pol ni pop dk fr g i = qr cap pol ni pop' dk' fr' g i := by
  unfold qr
  rw [qv_c h hd hf hp]
theorem qc_c {g : Int → Int} {i : Int} (h : SV dk fr nd ni sg ln) (hd : AG dk dk' ni) (hf : AG fr fr' nd) (hp : AG pop pop' ni) : qc cap pol ni pop dk fr g i = qc cap pol ni pop' dk' fr' g i := by
  unfold qc
  rw [qv_c h hd hf hp]
theorem qG_c {W L W' L' : Int → Int → Int} {g : Int → Int} {i : Int} (h : SV dk fr nd ni sg ln) (hd : AG dk dk' ni) (hf : AG fr fr' nd) (hp : AG pop pop' ni) (hW : W i (g 0) = W' i (g 0)) (hL : L i (g 0) = L' i (g 0)) : qG cap pol ni pop dk fr W L g i = qG cap pol ni pop' dk' fr' W' L' g i := by
  unfold qG
  rw [qc_c h hd hf hp, hW, hL]
end QC
def oL (c : Int) (l : List Int) : Bool × List Int := ((or_next (fun q => l.getD q.toNat 0) c).1, (List.range c.toNat).map (fun (i : Nat) => (or_next (fun q => l.getD q.toNat 0) c).2 (i : Int)))
def orb (c : Int) : Nat → List Int → List (List Int)
  | 0, _ => []
  | f + 1, l => l :: (if (oL c l).1 then orb c f (oL c l).2 else [])
def perms : Nat → List Int → List (List Int)
  | 0, _ => [[]]
  | m + 1, rem => rem.flatMap (fun x => (perms m (rem.filter (fun y => decide (y ≠ x)))).map (fun l => x :: l))
theorem orb_1 : orb 1 120 [0] = perms 1 [0] := by decide +kernel
theorem orb_2 : orb 2 120 [0, 1] = perms 2 [0, 1] := by decide +kernel
theorem orb_3 : orb 3 120 [0, 1, 2] = perms 3 [0, 1, 2] := by decide +kernel
theorem orb_4 : orb 4 120 [0, 1, 2, 3] = perms 4 [0, 1, 2, 3] := by decide +kernel
theorem orb_5 : orb 5 120 [0, 1, 2, 3, 4] = perms 5 [0, 1, 2, 3, 4] := by decide +kernel
