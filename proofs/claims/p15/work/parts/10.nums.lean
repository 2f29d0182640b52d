/-! NUMBERS: an int with its number -/
theorem ni_add {x y : Int32} {a b : Nat} (hx : x = nI a) (hy : y = nI b) : x + y = nI (a + b) := by rw [hx, hy, nI_add]
theorem ni_mul {x y : Int32} {a b : Nat} (hx : x = nI a) (hy : y = nI b) : x * y = nI (a * b) := by rw [hx, hy, pk_mul]
theorem ni_div {x y : Int32} {a d : Nat} (hx : x = nI a) (hy : y = nI d) (ha : a < 2 ^ 31) (h0 : 0 < d) (hd : d < 2 ^ 31) : x / y = nI (a / d) := by rw [hx, hy, pk_div ha h0 hd]
theorem ni_eq {x y : Int32} {a b : Nat} (hx : x = nI a) (hy : y = nI b) (ha : a < 2 ^ 31) (hb : b < 2 ^ 31) (c : x = y) : a = b := (nI_eq ha hb).mp (by rw [← hx, ← hy]; exact c)
theorem ni_ne {x y : Int32} {a b : Nat} (hx : x = nI a) (hy : y = nI b) (_ : a < 2 ^ 31) (_ : b < 2 ^ 31) (c : ¬ x = y) : ¬ a = b := fun h => c (by rw [hx, hy, h])
theorem ni_lt {x y : Int32} {a b : Nat} (hx : x = nI a) (hy : y = nI b) (ha : a < 2 ^ 31) (hb : b < 2 ^ 31) (c : x < y) : a < b := (nI_ltI ha hb).mp (by rw [← hx, ← hy]; exact c)
theorem ni_nlt {x y : Int32} {a b : Nat} (hx : x = nI a) (hy : y = nI b) (ha : a < 2 ^ 31) (hb : b < 2 ^ 31) (c : ¬ x < y) : b ≤ a := Nat.not_lt.mp fun h => c (by rw [hx, hy]; exact (nI_ltI ha hb).mpr h)
theorem ni_le {x y : Int32} {a b : Nat} (hx : x = nI a) (hy : y = nI b) (ha : a < 2 ^ 31) (hb : b < 2 ^ 31) (c : x ≤ y) : a ≤ b := (nI_leI ha hb).mp (by rw [← hx, ← hy]; exact c)
theorem ni_nle {x y : Int32} {a b : Nat} (hx : x = nI a) (hy : y = nI b) (ha : a < 2 ^ 31) (hb : b < 2 ^ 31) (c : ¬ x ≤ y) : b < a := Nat.not_le.mp fun h => c (by rw [hx, hy]; exact (nI_leI ha hb).mpr h)
/-- the low bits -/
def bl (x : Int32) (m : Nat) : Nat := x.toBitVec.toNat % (m + 1)
theorem ni_and31 (x : Int32) : x &&& 31 = nI (bl x 31) := pk_and x 5 (by decide)
theorem ni_and15 (x : Int32) : x &&& 15 = nI (bl x 15) := pk_and x 4 (by decide)
theorem ni_and3 (x : Int32) : x &&& 3 = nI (bl x 3) := pk_and x 2 (by decide)
theorem bl_lt (x : Int32) (m : Nat) : bl x m < m + 1 := Nat.mod_lt _ (Nat.succ_pos m)
theorem bo_ne {r : Int32} {P : Prop} [Decidable P] (h : r = if P then 1 else 0) (c : ¬ r = 0) : P := by
  by_cases hp : P
  · exact hp
  · rw [if_neg hp] at h; exact absurd h c
theorem bo_eq {r : Int32} {P : Prop} [Decidable P] (h : r = if P then 1 else 0) (c : r = 0) : ¬ P := by
  intro hp
  rw [if_pos hp] at h
  rw [h] at c
  exact absurd c (by decide)
abbrev inI (x n : Int32) : Prop := ¬ x < 0 ∧ x < n
theorem inI_nat {x n : Int32} {N : Nat} (hn : n = nI N) (hN : N < 2 ^ 31) (h : inI x n) : ∃ i, i < N ∧ x = nI i := by
  obtain ⟨j, hj, e⟩ := nI_of h.1
  refine ⟨j, ?_, e⟩
  have h2 := h.2
  rw [e, hn] at h2
  exact (nI_ltI hj hN).mp h2
theorem inI_of {i N : Nat} (h : i < N) (hN : N < 2 ^ 31) : inI (nI i) (nI N) := ⟨nI_pos (by omega), (nI_ltI (by omega) hN).mpr h⟩
/-- a slot's number -/
def nv (v : Vs) (k j : Nat) : Nat := (v k j).toNatClampNeg
theorem nv_of {v : Vs} {k j n : Nat} (h : v k j = nI n) (hn : n < 2 ^ 31) : nv v k j = n := by rw [nv, h, nI_clamp hn]
theorem nv_self {v : Vs} {k j n : Nat} (h : v k j = nI n) (hn : n < 2 ^ 31) : v k j = nI (nv v k j) := by rw [nv_of h hn]; exact h
theorem sw_6 (x : Int32) : (x.toInt < 0 ∨ 5 < x.toInt) ∨ x = 0 ∨ x = 1 ∨ x = 2 ∨ x = 3 ∨ x = 4 ∨ x = 5 := by
  have key : ∀ (k : Int32), x.toInt = k.toInt → x = k := fun k h => Int32.toInt_inj.mp h
  rcases (show (x.toInt < 0 ∨ 5 < x.toInt) ∨ x.toInt = 0 ∨ x.toInt = 1 ∨ x.toInt = 2 ∨ x.toInt = 3 ∨ x.toInt = 4 ∨ x.toInt = 5 by omega) with h | h | h | h | h | h | h
  · exact Or.inl h
  · exact Or.inr (Or.inl (key 0 h))
  · exact Or.inr (Or.inr (Or.inl (key 1 h)))
  · exact Or.inr (Or.inr (Or.inr (Or.inl (key 2 h))))
  · exact Or.inr (Or.inr (Or.inr (Or.inr (Or.inl (key 3 h)))))
  · exact Or.inr (Or.inr (Or.inr (Or.inr (Or.inr (Or.inl (key 4 h))))))
  · exact Or.inr (Or.inr (Or.inr (Or.inr (Or.inr (Or.inr (key 5 h))))))
