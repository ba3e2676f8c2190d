/-! contracts with a weaker end; the law's words -/
theorem bc_mono {G : bc_G} {y : MethodName} {yc : ByteArray} {yL : Nat} {yr : Option FieldType} {d N : Nat} {as : List Value} {M : bc_M} {post post' : bc_R → bc_M → Prop} (h : bc_Call G y yc yL yr d N as M post) (hp : ∀ r M', post r M' → post' r M') : bc_Call G y yc yL yr d N as M post' := fun ok => by
  have h1 := h ok
  unfold vx_Met at h1 ⊢
  refine MetFree.mono h1 (fun _ _ q => q) (fun _ _ _ _ _ q => q) (fun a s o t _ q => ?_)
  rcases q with ⟨⟨⟨v, M', e, q, hH⟩, hF⟩, hL⟩ | ⟨q, e, E, ce, locs, ⟨⟨M', q1, hH⟩, hF⟩, r⟩
  · exact Or.inl ⟨⟨⟨v, M', e, hp _ _ q, hH⟩, hF⟩, hL⟩
  · exact Or.inr ⟨q, e, E, ce, locs, ⟨⟨M', hp _ _ q1, hH⟩, hF⟩, r⟩
theorem bh_mono {G : bc_G} {y : MethodName} {yc : ByteArray} {yL : Nat} {yr : Option FieldType} {hh : List (Nat × Nat × Nat × Nat)} {d N : Nat} {as : List Value} {M : bc_M} {post post' : bc_R → bc_M → Prop} (h : bh_Call G y yc yL yr hh d N as M post) (hp : ∀ r M', post r M' → post' r M') : bh_Call G y yc yL yr hh d N as M post' := fun ok => by
  have h1 := h ok
  unfold vx_Met at h1 ⊢
  refine MetFree.mono h1 (fun _ _ q => q) (fun _ _ _ _ _ q => q) (fun a s o t _ q => ?_)
  rcases q with ⟨⟨⟨v, M', e, q, hH⟩, hF⟩, hL⟩ | ⟨q, e, E, ce, locs, ⟨⟨M', q1, hH⟩, hF⟩, r⟩
  · exact Or.inl ⟨⟨⟨v, M', e, hp _ _ q, hH⟩, hF⟩, hL⟩
  · exact Or.inr ⟨q, e, E, ce, locs, ⟨⟨M', hp _ _ q1, hH⟩, hF⟩, r⟩
