/-! THE CLASS'S STATE. Cells: 0 the object; 1 .. 4 its arrays of programs, processes, lines, pages; 5 the memory; a program i at 6 + 4 i (ops, as, bs behind it); a node's line n at 22 + 2 n (items behind it); a page j at 28 + 5 j (rights, last uses, the line of requests, its items behind it); a process i at 68 + 3 i (registers, hints behind it). g: the classes of the arrays (int, Program, Proc, Line, Page). np: how many processes are made. -/
def isLn (k : Nat) : Prop := (22 ≤ k ∧ k < 28 ∧ k % 2 = 0) ∨ (28 ≤ k ∧ k < 68 ∧ (k - 28) % 5 = 3)
def mkC (g : Nat → ClassId) (ad : Nat → Nat) (np : Nat) (k : Nat) (r : Nat → Int32) : va_E :=
  if k < 6 then
    (if k = 0 then .inr (ciC, [.ref (ad 1), .ref (ad 2), .ref (ad 3), .ref (ad 4), .ref (ad 5), .int (r 5), .int (r 6), .int (r 7), .int (r 8), .int (r 9), .int (r 10)])
    else if k = 1 then .inl (g 1, 4, .inr (.inr (.inr (.inr (fun i => if i < 4 then some (ad (6 + 4 * i)) else none)))))
    else if k = 2 then .inl (g 2, 8, .inr (.inr (.inr (.inr (fun i => if i < np then some (ad (68 + 3 * i)) else none)))))
    else if k = 3 then .inl (g 3, 3, .inr (.inr (.inr (.inr (fun i => if i < 3 then some (ad (22 + 2 * i)) else none)))))
    else if k = 4 then .inl (g 4, 8, .inr (.inr (.inr (.inr (fun i => if i < 8 then some (ad (28 + 5 * i)) else none)))))
    else .inl (g 0, 32, .inl r))
  else if k < 22 then
    (if (k - 6) % 4 = 0 then .inr (ciProgram, [.ref (ad (k + 1)), .ref (ad (k + 2)), .ref (ad (k + 3)), .int (r 3)]) else .inl (g 0, 12, .inl r))
  else if k < 28 then
    (if k % 2 = 0 then .inr (ciLine, [.ref (ad (k + 1)), .int (r 1)]) else .inl (g 0, 8, .inl r))
  else if k < 68 then
    (if (k - 28) % 5 = 0 then .inr (ciPage, [.ref (ad (k + 1)), .ref (ad (k + 2)), .ref (ad (k + 3)), .int (r 3)])
    else if (k - 28) % 5 = 3 then .inr (ciLine, [.ref (ad (k + 1)), .int (r 1)])
    else if (k - 28) % 5 = 4 then .inl (g 0, 8, .inl r)
    else .inl (g 0, 3, .inl r))
  else
    (if (k - 68) % 3 = 0 then .inr (ciProc, [.int (r 0), .int (r 1), .ref (ad (k + 1)), .ref (ad (k + 2)), .int (r 4), .int (r 5), .int (r 6), .int (r 7), .int (r 8), .int (r 9), .int (r 10), .int (r 11)])
    else if (k - 68) % 3 = 1 then .inl (g 0, 4, .inl r)
    else .inl (g 0, 3, .inl r))
section MK
variable {g : Nat → ClassId} {ad : Nat → Nat} {np : Nat} {r : Nat → Int32}
theorem mk_root : mkC g ad np 0 r = .inr (ciC, [.ref (ad 1), .ref (ad 2), .ref (ad 3), .ref (ad 4), .ref (ad 5), .int (r 5), .int (r 6), .int (r 7), .int (r 8), .int (r 9), .int (r 10)]) := rfl
theorem mk_programs : mkC g ad np 1 r = .inl (g 1, 4, .inr (.inr (.inr (.inr (fun i => if i < 4 then some (ad (6 + 4 * i)) else none))))) := rfl
theorem mk_processes : mkC g ad np 2 r = .inl (g 2, 8, .inr (.inr (.inr (.inr (fun i => if i < np then some (ad (68 + 3 * i)) else none))))) := rfl
theorem mk_lines : mkC g ad np 3 r = .inl (g 3, 3, .inr (.inr (.inr (.inr (fun i => if i < 3 then some (ad (22 + 2 * i)) else none))))) := rfl
theorem mk_pages : mkC g ad np 4 r = .inl (g 4, 8, .inr (.inr (.inr (.inr (fun i => if i < 8 then some (ad (28 + 5 * i)) else none))))) := rfl
theorem mk_memory : mkC g ad np 5 r = .inl (g 0, 32, .inl r) := rfl
theorem mk_program {i : Nat} (h : i < 4) : mkC g ad np (6 + 4 * i) r = .inr (ciProgram, [.ref (ad (6 + 4 * i + 1)), .ref (ad (6 + 4 * i + 2)), .ref (ad (6 + 4 * i + 3)), .int (r 3)]) := by
  unfold mkC
  rw [if_neg (by omega), if_pos (by omega), if_pos (by omega)]
theorem mk_ops {i j : Nat} (h : i < 4) (h1 : 1 ≤ j) (h2 : j < 4) : mkC g ad np (6 + 4 * i + j) r = .inl (g 0, 12, .inl r) := by
  unfold mkC
  rw [if_neg (by omega), if_pos (by omega), if_neg (by omega)]
theorem mk_line {k : Nat} (h : isLn k) : mkC g ad np k r = .inr (ciLine, [.ref (ad (k + 1)), .int (r 1)]) := by
  unfold mkC
  rcases h with ⟨h1, h2, h3⟩ | ⟨h1, h2, h3⟩
  · rw [if_neg (by omega), if_neg (by omega), if_pos (by omega), if_pos (by omega)]
  · rw [if_neg (by omega), if_neg (by omega), if_neg (by omega), if_pos (by omega), if_neg (by omega), if_pos (by omega)]
theorem mk_items {k : Nat} (h : isLn k) : mkC g ad np (k + 1) r = .inl (g 0, 8, .inl r) := by
  unfold mkC
  rcases h with ⟨h1, h2, h3⟩ | ⟨h1, h2, h3⟩
  · rw [if_neg (by omega), if_neg (by omega), if_pos (by omega), if_neg (by omega)]
  · rw [if_neg (by omega), if_neg (by omega), if_neg (by omega), if_pos (by omega), if_neg (by omega), if_neg (by omega), if_pos (by omega)]
theorem mk_page {j : Nat} (h : j < 8) : mkC g ad np (28 + 5 * j) r = .inr (ciPage, [.ref (ad (28 + 5 * j + 1)), .ref (ad (28 + 5 * j + 2)), .ref (ad (28 + 5 * j + 3)), .int (r 3)]) := by
  unfold mkC
  rw [if_neg (by omega), if_neg (by omega), if_neg (by omega), if_pos (by omega), if_pos (by omega)]
theorem mk_rights {j : Nat} (h : j < 8) : mkC g ad np (28 + 5 * j + 1) r = .inl (g 0, 3, .inl r) := by
  unfold mkC
  rw [if_neg (by omega), if_neg (by omega), if_neg (by omega), if_pos (by omega), if_neg (by omega), if_neg (by omega), if_neg (by omega)]
theorem mk_uses {j : Nat} (h : j < 8) : mkC g ad np (28 + 5 * j + 2) r = .inl (g 0, 3, .inl r) := by
  unfold mkC
  rw [if_neg (by omega), if_neg (by omega), if_neg (by omega), if_pos (by omega), if_neg (by omega), if_neg (by omega), if_neg (by omega)]
theorem mk_proc {i : Nat} : mkC g ad np (68 + 3 * i) r = .inr (ciProc, [.int (r 0), .int (r 1), .ref (ad (68 + 3 * i + 1)), .ref (ad (68 + 3 * i + 2)), .int (r 4), .int (r 5), .int (r 6), .int (r 7), .int (r 8), .int (r 9), .int (r 10), .int (r 11)]) := by
  unfold mkC
  rw [if_neg (by omega), if_neg (by omega), if_neg (by omega), if_neg (by omega), if_pos (by omega)]
theorem mk_regs {i : Nat} : mkC g ad np (68 + 3 * i + 1) r = .inl (g 0, 4, .inl r) := by
  unfold mkC
  rw [if_neg (by omega), if_neg (by omega), if_neg (by omega), if_neg (by omega), if_neg (by omega), if_pos (by omega)]
theorem mk_hints {i : Nat} : mkC g ad np (68 + 3 * i + 2) r = .inl (g 0, 3, .inl r) := by
  unfold mkC
  rw [if_neg (by omega), if_neg (by omega), if_neg (by omega), if_neg (by omega), if_neg (by omega), if_neg (by omega)]
end MK
theorem ln_node {n : Nat} (h : n < 3) : isLn (22 + 2 * n) := Or.inl ⟨by omega, by omega, by omega⟩
theorem ln_page {j : Nat} (h : j < 8) : isLn (28 + 5 * j + 3) := Or.inr ⟨by omega, by omega, by omega⟩
theorem ln_lt {k : Nat} (h : isLn k) : 22 ≤ k ∧ k + 1 < 68 := by
  rcases h with ⟨h1, h2, h3⟩ | ⟨h1, h2, h3⟩ <;> omega
