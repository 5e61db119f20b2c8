def dqb (cd : ByteArray) (q : Nat × Instr × Nat) : Bool := decide (decode cd q.1 = .ok q.2)
theorem dqb_ok {cd : ByteArray} {q : Nat × Instr × Nat} (h : dqb cd q = true) : decode cd q.1 = .ok q.2 := of_decide_eq_true h
theorem dq {cd : ByteArray} {T : List (Nat × Instr × Nat)} (h : T.all (dqb cd) = true) (i : Nat) {pc : Nat} {ins : Instr} {len : Nat} (hi : T[i]? = some (pc, ins, len)) : decode cd pc = .ok (ins, len) := by
  have h1 := List.all_eq_true.mp h (pc, ins, len) (List.mem_of_getElem? hi)
  have h2 := dqb_ok h1
  exact h2
