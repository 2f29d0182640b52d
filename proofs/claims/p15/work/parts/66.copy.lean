/-! copy: with both numbers in range class and reference answer alike; with one out of range never (no row of the claim needs this: it is REPORT's evidence) -/
theorem Sim.copyIn {b x np : Nat} {d : Int32} {v r : Vs} (h : Sim b x d np v r) {z y : Int32} (c1 : inI z 3) (c2 : inI y 32) : rCopy v z y = mCopy r z y := by
  have hy := (inI_nn (N := 32) rfl (by omega) c2).2
  have hz := (inI_nn (N := 3) rfl (by omega) c1).2
  unfold rCopy mCopy
  rw [if_pos c1, if_pos c2, if_neg ((io (m := 2) (by decide)).mp c1), if_neg ((io (m := 31) (by decide)).mp c2)]
  rw [h.right (j := nn y / 4) (by omega) hz, h.D _ _ _ _ (.mem hy)]
theorem copyOut (v r : Vs) {z y : Int32} (c : ¬ (inI z 3 ∧ inI y 32)) : rCopy v z y = -1 ∧ mCopy r z y = NONEv := by
  unfold rCopy mCopy
  by_cases c1 : inI z 3
  · have c2 : ¬ inI y 32 := fun q => c ⟨c1, q⟩
    rw [if_pos c1, if_neg c2, if_neg ((io (m := 2) (by decide)).mp c1), if_pos (Classical.byContradiction fun q => c2 ((io (m := 31) (by decide)).mpr q))]
    exact ⟨rfl, rfl⟩
  · rw [if_neg c1, if_pos (Classical.byContradiction fun q => c1 ((io (m := 2) (by decide)).mpr q))]
    exact ⟨rfl, rfl⟩
