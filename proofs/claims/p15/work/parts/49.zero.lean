/-! the two states at first -/
theorem vC0_z {k j : Nat} (h : k < 28 ∨ 68 ≤ k ∨ (k - 28) % 5 ≠ 0) : vC0 k j = 0 := by
  unfold vC0
  rw [if_neg (by omega)]
theorem vC0_h {k : Nat} (h : k < 8) : vC0 (28 + 5 * k) 3 = 3 := by
  unfold vC0
  rw [if_pos (by omega)]
  rfl
theorem ok_0 : Ok 0 vC0 := by
  refine ⟨by omega, fun k j hk => ?_, fun i hi => ?_⟩
  · unfold okS
    refine ⟨fun a _ => by rw [vC0_z (by omega)]; rfl, fun a _ => ?_, fun a _ => ?_, fun a _ => by omega, fun a _ => by omega⟩
    · have : isLn k := a
      unfold isLn at this
      rw [vC0_z (by omega)]
      exact ⟨0, by omega, rfl, fun q => by omega⟩
    · have : isLn (k - 1) := a
      unfold isLn at this
      rw [vC0_z (by omega)]
      exact ⟨0, rfl, Or.inr rfl⟩
  · have e : vC0 (6 + 4 * i) 3 = 0 := vC0_z (by omega)
    unfold okP nv
    rw [e]
    exact ⟨⟨0, by omega, rfl⟩, fun t ht => absurd ht (Nat.not_lt_zero t)⟩
theorem rM0_z {k j : Nat} (h : k ≠ 14 ∧ k ≠ 21) : rM0 k j = 0 := by
  unfold rM0
  rw [if_neg h.1, if_neg h.2]
theorem okM_0 : OkM rM0 := by
  have z : ∀ (c b : Nat), c ≠ 14 ∧ c ≠ 21 → 0 < b → ∀ j, okLt b (rM0 c j) := fun c b h hb j => by rw [rM0_z h]; exact ⟨0, hb, rfl⟩
  refine ⟨z 0 9 (by omega) (by omega) 14, z 2 4 (by omega) (by omega), z 4 13 (by omega) (by omega), z 5 4 (by omega) (by omega), z 7 13 (by omega) (by omega), z 8 3 (by omega) (by omega), z 22 3 (by omega) (by omega), fun i hi t ht => ?_⟩
  unfold nv at ht
  rw [rM0_z (by omega)] at ht
  exact absurd ht (Nat.not_lt_zero t)
