def nn (x : Int32) : Nat := x.toNatClampNeg
theorem inI_nn {x n : Int32} {N : Nat} (hn : n = nI N) (hN : N < 2 ^ 31) (h : inI x n) : x = nI (nn x) ∧ nn x < N := by
  obtain ⟨i, hi, e⟩ := inI_nat hn hN h
  have h1 : nn x = i := by rw [nn, e, nI_clamp (by omega)]
  rw [h1]
  exact ⟨e, hi⟩
theorem i_nlt {x y : Int32} (h : y ≤ x) : ¬ x < y := fun c => absurd (Int32.lt_iff_toInt_lt.mp c) (Int.not_lt.mpr (Int32.le_iff_toInt_le.mp h))
theorem i_lt {x y : Int32} (h : ¬ y ≤ x) : x < y := Int32.lt_iff_toInt_lt.mpr (Int.not_le.mp fun c => h (Int32.le_iff_toInt_le.mpr c))
theorem ite_iff {P Q : Prop} [Decidable P] [Decidable Q] (h : P ↔ Q) : (if P then (1 : Int32) else 0) = if Q then 1 else 0 := by
  by_cases hp : P
  · rw [if_pos hp, if_pos (h.mp hp)]
  · rw [if_neg hp, if_neg (fun q => hp (h.mpr q))]
theorem ite_t {P : Prop} [Decidable P] (h : P) : (1 : Int32) = if P then 1 else 0 := by rw [if_pos h]
theorem ite_f {P : Prop} [Decidable P] (h : ¬ P) : (0 : Int32) = if P then 1 else 0 := by rw [if_neg h]
/-! WHAT THE CLASS'S METHODS DO, as functions of the slots, step by step -/
def fmod (x y : Int32) : Int32 := if 0 ≤ x ^^^ y then x - x / y * y else if x - x / y * y = 0 then x - x / y * y else x - x / y * y + y
abbrev fitP (op b : Int32) : Prop := (op = 0 ∧ ¬ b < -1000 ∧ ¬ 1000 < b) ∨ (¬ op = 0 ∧ inI b (if op = 5 then 12 else 4))
def cApp (v : Vs) (k : Nat) (x : Int32) : Vs := if 8 ≤ v k 1 then v else
  let v1 := u2 v (k + 1) (nv v k 1) x
  u2 v1 k 1 (v1 k 1 + 1)
def cRemL (k : Nat) (x : Int32) : Nat → Nat → Nat → Vs → Vs
  | 0, _, kept, v => u2 v k 1 (nI kept)
  | r + 1, i, kept, v => if v (k + 1) i = x then cRemL k x r (i + 1) kept v else cRemL k x r (i + 1) (kept + 1) (u2 v (k + 1) kept (v (k + 1) i))
def cRem (v : Vs) (k : Nat) (x : Int32) : Vs := cRemL k x (nv v k 1) 0 0 v
def cJoin (v : Vs) (i : Nat) : Vs :=
  let v1 := u2 v (68 + 3 * i) 5 1
  let v2 := u2 v1 (68 + 3 * i) 7 0
  cApp v2 (22 + 2 * nv v2 (68 + 3 * i) 4) (v2 (68 + 3 * i) 0)
def cLeave (v : Vs) (i : Nat) (st : Int32) : Vs := u2 (cRem v (22 + 2 * nv v (68 + 3 * i) 4) (v (68 + 3 * i) 0)) (68 + 3 * i) 5 st
def cWk (i : Nat) : Nat → Nat → Vs → Vs
  | 0, _, v => v
  | r + 1, j, v => cWk i r (j + 1) (if v (68 + 3 * j) 5 = 3 then (if v (68 + 3 * j) 11 = v (68 + 3 * i) 0 then cJoin v j else v) else v)
def cEnd (np : Nat) (v : Vs) (i : Nat) (code : Int32) : Vs := cWk i np 0 (u2 (cLeave v i 4) (68 + 3 * i) 8 code)
/-! Ok, behind each of them -/
section OKF
variable {np : Nat} {v : Vs}
theorem okIt_of {i : Nat} (h : i < np) : okIt np (nI i) := ⟨i, rfl, Or.inl h⟩
theorem Ok.app (h : Ok np v) {k : Nat} {x : Int32} (hk : isLn k) (h0 : 0 < np) (hx : okIt np x) : Ok np (cApp v k x) := by
  unfold cApp
  by_cases c : 8 ≤ v k 1
  · rw [if_pos c]; exact h
  · rw [if_neg c]
    have hl := ln_lt hk
    obtain ⟨e, b, -⟩ := h.size hk
    have n : nv v k 1 < 8 := ni_nle (a := 8) rfl e (by omega) (by omega) c
    have h1 : Ok np (u2 v (k + 1) (nv v k 1) x) := h.set (by omega) (okS_it hk hx)
    refine h1.set (by omega) (okS_sz hk ⟨nv v k 1 + 1, by omega, ?_, fun _ => h0⟩)
    rw [u2_a (by omega), e]
    exact ni_add rfl rfl
theorem Ok.remL {k : Nat} {x : Int32} (hk : isLn k) (h0 : 0 < np) : ∀ (r i kept : Nat) (v : Vs), Ok np v → kept ≤ i → i + r ≤ 8 → Ok np (cRemL k x r i kept v) := by
  have hl := ln_lt hk
  intro r
  induction r with
  | zero => exact fun i kept v h h1 h2 => h.set (by omega) (okS_sz hk ⟨kept, by omega, rfl, fun _ => h0⟩)
  | succ r ih =>
    intro i kept v h h1 h2
    unfold cRemL
    by_cases c : v (k + 1) i = x
    · rw [if_pos c]; exact ih _ _ _ h (by omega) (by omega)
    · rw [if_neg c]
      obtain ⟨e, b⟩ := h.item hk i h0
      exact ih _ _ _ (h.set (by omega) (okS_it hk ⟨_, e, Or.inl b⟩)) (by omega) (by omega)
theorem Ok.rem (h : Ok np v) {k : Nat} {x : Int32} (hk : isLn k) (h0 : 0 < np) : Ok np (cRem v k x) := Ok.remL hk h0 _ _ _ _ h (Nat.le_refl _) (by have := (h.size hk).2.1; omega)
theorem Ok.fr (h : Ok np v) {i j : Nat} {x : Int32} (hj : j ≠ 0 ∧ j ≠ 1 ∧ j ≠ 4 ∧ j ≠ 6) : Ok np (u2 v (68 + 3 * i) j x) := h.set (by omega) (okS_free (by omega))
theorem Ok.join (h : Ok np v) {i : Nat} (hi : i < np) : Ok np (cJoin v i) := by
  have h2 : Ok np (u2 (u2 v (68 + 3 * i) 5 1) (68 + 3 * i) 7 0) := (h.fr (by omega)).fr (by omega)
  refine h2.app (ln_node (h2.place hi).2) (by omega) ?_
  rw [(h2.number hi).1]
  exact okIt_of hi
theorem Ok.leave (h : Ok np v) {i : Nat} {st : Int32} (hi : i < np) : Ok np (cLeave v i st) := (h.rem (ln_node (h.place hi).2) (by omega)).fr (by omega)
theorem Ok.wk {i : Nat} : ∀ (r j : Nat) (v : Vs), Ok np v → j + r ≤ np → Ok np (cWk i r j v) := by
  intro r
  induction r with
  | zero => exact fun j v h _ => h
  | succ r ih =>
    intro j v h hj
    refine ih _ _ ?_ (by omega)
    by_cases c : v (68 + 3 * j) 5 = 3
    · rw [if_pos c]
      by_cases c2 : v (68 + 3 * j) 11 = v (68 + 3 * i) 0
      · rw [if_pos c2]; exact h.join (by omega)
      · rw [if_neg c2]; exact h
    · rw [if_neg c]; exact h
theorem Ok.end (h : Ok np v) {i : Nat} {code : Int32} (hi : i < np) : Ok np (cEnd np v i code) := Ok.wk _ _ _ ((h.leave hi).fr (by omega)) (by omega)
end OKF
