/-- a decoded instruction, and where the next one stands -/
def bc_d (cc : ByteArray) (pc : Nat) (i : Instr) (n pc' : Nat) : Prop := decode cc pc = .ok (i, n) ∧ pc' = pc + n
def bc_dc (cc : ByteArray) (pc : Nat) (c : ClassFile.Cond) (tgt pc' : Nat) : Prop := (∃ off : Int, decode cc pc = .ok (.if_icmp c off, 3) ∧ (pc : Int) + off = (tgt : Int)) ∧ pc' = pc + 3
def bc_dz (cc : ByteArray) (pc : Nat) (c : ClassFile.Cond) (tgt pc' : Nat) : Prop := (∃ off : Int, decode cc pc = .ok (.ifCond c off, 3) ∧ (pc : Int) + off = (tgt : Int)) ∧ pc' = pc + 3
def bc_dg (cc : ByteArray) (pc : Nat) (tgt : Nat) : Prop := ∃ off : Int, decode cc pc = .ok (.goto off, 3) ∧ (pc : Int) + off = (tgt : Int)
