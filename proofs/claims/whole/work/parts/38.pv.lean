theorem sp_sum_add {f g : Int → Int} : ∀ n : Nat, sp_sum (fun d => f d + g d) n = sp_sum f n + sp_sum g n
  | 0 => rfl
  | n + 1 => by simp only [sp_sum]; rw [sp_sum_add n]; omega
theorem sp_sum_one {x : Int} : ∀ n : Nat, (0 ≤ sp_sum (fun d => if x = d then 1 else 0) n ∧ sp_sum (fun d => if x = d then 1 else 0) n ≤ 1) ∧ (x ≥ n → sp_sum (fun d => if x = d then 1 else 0) n = 0)
  | 0 => by simp [sp_sum]
  | n + 1 => by
    have h := sp_sum_one (x := x) n
    simp only [sp_sum]
    split
    · rename_i hx
      have := h.2 (by omega)
      exact ⟨by omega, fun h9 => by omega⟩
    · exact ⟨by omega, fun h9 => by have := h.2 (by omega); omega⟩
theorem sp_sum_cd {dk : Int → Int} {k : Nat} : ∀ n : Nat, sp_sum (fun d => sp_cd dk d n) k ≤ n
  | 0 => by
    have : ∀ k : Nat, sp_sum (fun _ : Int => (0 : Int)) k = 0 := by
      intro k
      induction k with
      | zero => rfl
      | succ k ih => simp only [sp_sum]; omega
    simp only [sp_cd]
    have := this k
    omega
  | n + 1 => by
    simp only [sp_cd]
    rw [sp_sum_add (f := fun d => sp_cd dk d n) (g := fun d => if dk n = d then 1 else 0)]
    have h1 := sp_sum_cd (dk := dk) (k := k) n
    have h2 := (sp_sum_one (x := dk n) k).1
    omega
theorem sp_sum_le {f g : Int → Int} : ∀ n : Nat, (∀ d : Int, 0 ≤ d → d < n → f d ≤ g d) → sp_sum f n ≤ sp_sum g n
  | 0, _ => by simp [sp_sum]
  | n + 1, h => by
    simp only [sp_sum]
    have h1 := sp_sum_le n (fun d a b => h d a (by omega))
    have h2 := h n (by omega) (by omega)
    omega
theorem sp_sum_part {f : Int → Int} : ∀ (n : Nat) (d : Nat), d < n → (∀ q : Int, 0 ≤ q → q < n → 0 ≤ f q) → sp_sum f d + f d ≤ sp_sum f n
  | 0, d, hd, _ => by omega
  | n + 1, d, hd, h => by
    simp only [sp_sum]
    have h2 := h n (by omega) (by omega)
    by_cases hq : d = n
    · subst hq; omega
    · have := sp_sum_part n d (by omega) (fun q a b => h q a (by omega))
      omega
theorem ediv_lt {a b c : Int} (hb : 0 < b) (h : a < c * b) : a / b < c := Int.ediv_lt_of_lt_mul hb h
section PVS
variable {dk fr : Int → Int} {nd ni sg ln : Int}
theorem sp_z_le (h : SV dk fr nd ni sg ln) (d : Int) : sp_z dk fr nd ni d ≤ sp_m dk ni d := by
  have hm := sp_m_rng h d
  unfold sp_z sp_sz
  split
  · rename_i hq
    generalize hc : sp_N dk fr nd ni / fr d = c at hq
    have : (sp_m dk ni d + c - 1) / c < sp_m dk ni d + 1 := by
      apply ediv_lt hq.2
      have h1 : (sp_m dk ni d + 1) * c = sp_m dk ni d * c + c := by rw [Int.add_mul, Int.one_mul]
      have h2 : sp_m dk ni d * 1 ≤ sp_m dk ni d * c := Int.mul_le_mul_of_nonneg_left (by omega) (by omega)
      omega
    omega
  · omega
theorem sp_RL16 (h : SV dk fr nd ni sg ln) : 0 ≤ sp_RL dk fr nd ni ∧ sp_RL dk fr nd ni ≤ 16 := by
  refine ⟨(sp_RL_rng h).1, ?_⟩
  have h1 := sp_sum_le (f := sp_z dk fr nd ni) (g := sp_m dk ni) nd.toNat (fun d _ _ => sp_z_le h d)
  have h2 := sp_sum_cd (dk := dk) (k := nd.toNat) ni.toNat
  have h3 : sp_sum (sp_m dk ni) nd.toNat = sp_sum (fun d => sp_cd dk d ni.toNat) nd.toNat := rfl
  have h4 := h.2.1
  unfold sp_RL
  omega
theorem sp_S_rng (h : SV dk fr nd ni sg ln) : 1 ≤ sp_S dk fr nd ni ∧ sp_S dk fr nd ni ≤ 960 := by
  have h1 := (sp_N60 h).1
  have h2 := sp_RL16 h
  have h3 := bm_nn (a := sp_N dk fr nd ni) (b := sp_RL dk fr nd ni) (A := 60) (B := 16) ⟨by have := h1.1; omega, h1.2.1⟩ h2
  unfold sp_S
  omega
theorem sp_cd_lt {dk : Int → Int} : ∀ (n : Nat) (i : Nat), i < n → sp_cd dk (dk i) i < sp_cd dk (dk i) n
  | 0, i, h => by omega
  | n + 1, i, h => by
    simp only [sp_cd]
    by_cases hq : i = n
    · subst hq; rw [if_pos rfl]; omega
    · have := sp_cd_lt (dk := dk) n i (by omega)
      split <;> omega
/-- a slot of a disk's item: round and place -/
theorem sp_rp (h : SV dk fr nd ni sg ln) {i : Int} (hi : 0 ≤ i ∧ i < ni) : let d := dk i; let a := sp_cd dk d i.toNat; let z := sp_z dk fr nd ni d; let c := sp_N dk fr nd ni / fr d; (1 ≤ z ∧ 1 ≤ c ∧ fr d * c = sp_N dk fr nd ni) ∧ (0 ≤ a ∧ a < sp_m dk ni d ∧ sp_m dk ni d ≤ z * c) ∧ (0 ≤ a / z ∧ a / z < c) ∧ (0 ≤ a % z ∧ a % z < z) ∧ sp_o dk fr nd ni d + z ≤ sp_RL dk fr nd ni := by
  intro d a z c
  have hd := h.2.2.2.2.2 i hi.1 hi.2
  have hm := sp_m_item h hi
  have h1 := sp_cnt1 h hd hm
  have h2 := sp_z_used h hd hm
  have hz1 : 1 ≤ z := h2.2
  have hc1 : 1 ≤ c := h1.1
  have ha : 0 ≤ a := (sp_cd_rng dk d i.toNat).1
  have ha2 : a < sp_m dk ni d := by
    have := sp_cd_lt (dk := dk) ni.toNat i.toNat (by omega)
    rw [show ((i.toNat : Nat) : Int) = i by omega] at this
    exact this
  have hmz : sp_m dk ni d ≤ z * c := by
    have hz : z = (sp_m dk ni d + c - 1) / c := h2.1
    have h3 := Int.ediv_mul_add_emod (sp_m dk ni d + c - 1) c
    have h4 := Int.emod_lt_of_pos (sp_m dk ni d + c - 1) (show 0 < c by omega)
    rw [← hz] at h3
    omega
  refine ⟨⟨hz1, hc1, h1.2⟩, ⟨ha, ha2, hmz⟩, ⟨Int.ediv_nonneg ha (by omega), ediv_lt (by omega) ?_⟩, ⟨Int.emod_nonneg _ (by omega), Int.emod_lt_of_pos _ (by omega)⟩, ?_⟩
  · rw [Int.mul_comm]; omega
  · have := sp_sum_part (f := sp_z dk fr nd ni) nd.toNat d.toNat (by omega) (fun q _ _ => (sp_z_rng h q).1)
    rw [show ((d.toNat : Nat) : Int) = d by omega] at this
    exact this
theorem sp_dx_rng (h : SV dk fr nd ni sg ln) {i q : Int} (hi : 0 ≤ i ∧ i < ni) (hq : 0 ≤ q ∧ q < fr (dk i)) : 0 ≤ sp_dx dk fr nd ni i q ∧ sp_dx dk fr nd ni i q < sp_S dk fr nd ni := by
  have hd := h.2.2.2.2.2 i hi.1 hi.2
  have hrp := sp_rp h hi
  have hR := sp_RL16 h
  have ho := sp_o_rng h (d := dk i) (by have := h.1; omega)
  have hfr := h.2.2.2.2.1 (dk i) hd.1 hd.2
  simp only at hrp
  unfold sp_dx sp_x
  generalize sp_cd dk (dk i) i.toNat = a at hrp ⊢
  generalize sp_z dk fr nd ni (dk i) = z at hrp ⊢
  generalize hN : sp_N dk fr nd ni = N at hrp ⊢
  generalize hRL : sp_RL dk fr nd ni = R at hrp hR ⊢
  generalize sp_o dk fr nd ni (dk i) = w at hrp ho ⊢
  generalize hf : fr (dk i) = f at hrp hq hfr ⊢
  have hS : sp_S dk fr nd ni = max 1 (N * R) := by unfold sp_S; rw [hN, hRL]
  generalize N / f = c at hrp ⊢
  obtain ⟨⟨g1, g2, g3⟩, _, ⟨g4, g5⟩, ⟨g6, g7⟩, g8⟩ := hrp
  generalize a / z = r0 at g4 g5 ⊢
  generalize a % z = p0 at g6 g7 ⊢
  have e1 : q * c ≤ (f - 1) * c := Int.mul_le_mul_of_nonneg_right (by omega) (by omega)
  have e2 : (f - 1) * c = N - c := by rw [Int.sub_mul, Int.one_mul, g3]
  have e3 : 0 ≤ q * c := Int.mul_nonneg hq.1 (by omega)
  have e4 : (r0 + q * c) * R ≤ (N - 1) * R := Int.mul_le_mul_of_nonneg_right (by omega) (by omega)
  have e5 : 0 ≤ (r0 + q * c) * R := Int.mul_nonneg (by omega) (by omega)
  have e6 : (N - 1) * R = N * R - R := by rw [Int.sub_mul, Int.one_mul]
  omega
theorem sp_tm_rng {sg S ln x : Int} (hg : 0 ≤ sg ∧ sg ≤ 8) (hl : 1 ≤ ln) (hx : 0 ≤ x ∧ x < S) : x ≤ sp_tm sg S ln x ∧ sp_tm sg S ln x < S + sg * ln := by
  unfold sp_tm
  split
  · rename_i h; subst h; omega
  · rename_i h
    have e1 : 0 ≤ ((x + 1) * sg - 1) / S := by
      apply Int.ediv_nonneg _ (by omega)
      have : 1 * 1 ≤ (x + 1) * sg := Int.mul_le_mul (by omega) (by omega) (by omega) (by omega)
      omega
    have e2 : ((x + 1) * sg - 1) / S < sg := by
      apply ediv_lt (by omega)
      have : (x + 1) * sg ≤ S * sg := Int.mul_le_mul_of_nonneg_right (by omega) (by omega)
      rw [Int.mul_comm sg S]
      omega
    generalize ((x + 1) * sg - 1) / S = y at e1 e2 ⊢
    have e3 : (y + 1) * ln ≤ sg * ln := Int.mul_le_mul_of_nonneg_right (by omega) (by omega)
    have e4 : 0 ≤ (y + 1) * ln := Int.mul_nonneg (by omega) (by omega)
    omega
theorem BR.pv {M : bc_M} {j : Int} (h : SV dk fr nd ni sg ln) (hb : BR M j dk fr nd ni sg ln) : PV M j ni ∧ M 17 j 0 < 1000 := by
  obtain ⟨b0, b1, b2, b3, b4, b5⟩ := hb
  have hS := sp_S_rng h
  obtain ⟨h1, h2, h3, h4, h5, h6⟩ := id h
  have hgl := bm_nn (a := sg) (b := ln) (A := 8) (B := 4) h3 (by omega)
  unfold PV
  rw [b0, b2, b3]
  refine ⟨⟨⟨by omega, by omega⟩, h3, h4, fun k a b => ?_, by omega, fun i a b => ?_⟩, by omega⟩
  · rw [b4 k a b]
    have e1 : k * sp_S dk fr nd ni / sg < sp_S dk fr nd ni := by
      apply ediv_lt (by omega)
      rw [Int.mul_comm (sp_S dk fr nd ni) sg]
      exact Int.mul_lt_mul_of_pos_right b (by omega)
    have e2 : 0 ≤ k * sp_S dk fr nd ni / sg := Int.ediv_nonneg (Int.mul_nonneg a (by omega)) (by omega)
    have e3 : k * ln < sg * ln := Int.mul_lt_mul_of_pos_right b (by omega)
    have e4 : 0 ≤ k * ln := Int.mul_nonneg a (by omega)
    omega
  · obtain ⟨c1, c2⟩ := b5 i a b
    have hd := h6 i a b
    have hf := h5 (dk i) hd.1 hd.2
    rw [c1]
    refine ⟨hf, fun n x y => ?_⟩
    rw [c2 n x y]
    have e1 := sp_dx_rng h ⟨a, b⟩ ⟨x, y⟩
    have e2 := sp_tm_rng (ln := ln) h3 (by omega) e1
    unfold sp_T
    omega
end PVS
