section SX
variable {b x np : Nat} {d : Int32} {v r : Vs}
theorem Sim.right (h : Sim b x d np v r) {j n : Nat} (hj : j < 8) (hn : n < 3) : v (28 + 5 * j + 1) n = r 19 (8 * n + j) := h.D _ _ _ _ (.rt hj hn)
/-- the page used the longest ago -/
theorem old_spec (h : Sim b x d np v r) {n : Nat} (hn : n < 3) : ∀ (k j c : Nat) (o : Option Nat) (o' : Nat), j + k = 8 → (match o with | none => o' = 8 | some q => o' = q ∧ q < 8) →
    (cOld v n k j c o).1 = mHeldL r n k j c ∧ (match (cOld v n k j c o).2 with | none => mOldL r n k j o' = 8 | some q => mOldL r n k j o' = q ∧ q < 8) := by
  intro k
  induction k with
  | zero =>
    intro j c o o' _ ho
    cases o with
    | none => exact ⟨rfl, ho⟩
    | some q => exact ⟨rfl, ho⟩
  | succ k ih =>
    intro j c o o' hj ho
    have hr := h.right (j := j) (n := n) (by omega) hn
    cases o with
    | none =>
      simp only [cOld, mHeldL, mOldL]
      rw [hr]
      by_cases c1 : r 19 (8 * n + j) = 0
      · rw [if_pos c1, if_pos c1, if_pos c1]
        exact ih (j + 1) c none o' (by omega) ho
      · have h8 : nI o' = 8 := by rw [show o' = 8 from ho]; rfl
        rw [if_neg c1, if_neg c1, if_neg c1, if_pos h8]
        exact ih (j + 1) (c + 1) (some j) j (by omega) ⟨rfl, by omega⟩
    | some q =>
      obtain ⟨e, hq⟩ := (show o' = q ∧ q < 8 from ho)
      subst e
      simp only [cOld, mHeldL, mOldL]
      rw [hr]
      by_cases c1 : r 19 (8 * n + j) = 0
      · rw [if_pos c1, if_pos c1, if_pos c1]
        exact ih (j + 1) c (some o') o' (by omega) ⟨rfl, hq⟩
      · have h8 : ¬ nI o' = 8 := fun e => by have := (nI_eq (a := o') (b := 8) (by omega) (by omega)).mp e; omega
        rw [if_neg c1, if_neg c1, if_neg c1, if_neg h8]
        have hu := h.uo n hn o' hq j (by omega)
        have u1 := (h.uv n hn o' hq).1
        have u2' := (h.uv n hn j (by omega)).1
        have t1 := (h.t20 (8 * n + o') (by omega)).1
        have t2 := (h.t20 (8 * n + j) (by omega)).1
        by_cases c2 : v (28 + 5 * o' + 2) n ≤ v (28 + 5 * j + 2) n
        · have c2' : r 20 (8 * n + o') ≤ r 20 (8 * n + j) := by
            have := hu.mp (ni_le u1 u2' (nv_lt _ _ _) (nv_lt _ _ _) c2)
            rw [t1, t2]
            exact (nI_leI (nv_lt _ _ _) (nv_lt _ _ _)).mpr this
          rw [if_pos c2, if_pos c2']
          exact ih (j + 1) (c + 1) (some o') o' (by omega) ⟨rfl, hq⟩
        · have c2' : ¬ r 20 (8 * n + o') ≤ r 20 (8 * n + j) := fun p => by
            have := hu.mpr (ni_le t1 t2 (nv_lt _ _ _) (nv_lt _ _ _) p)
            apply c2
            rw [u1, u2']
            exact (nI_leI (nv_lt _ _ _) (nv_lt _ _ _)).mpr this
          rw [if_neg c2, if_neg c2']
          exact ih (j + 1) (c + 1) (some j) j (by omega) ⟨rfl, by omega⟩
theorem Sim.setg (h : Sim b x d np v r) {j n : Nat} {z : Int32} (hj : j < 8) (hn : n < 3) (hz : z = 0 ∨ z = 1 ∨ z = 2) : Sim b x d np (u2 v (28 + 5 * j + 1) n z) (u2 r 19 (8 * n + j) z) := h.up (.rt hj hn) (h.ok.pg (by omega)) (h.okM.fr (by omega)) (fun q => by omega) (fun _ => hz)
theorem Sim.seto (h : Sim b x d np v r) {j : Nat} {z : Int32} (hj : j < 8) : Sim b x d np (u2 v (28 + 5 * j) 3 z) (u2 r 21 j z) := h.up (.own hj) (h.ok.pg (by omega)) (h.okM.fr (by omega)) (fun q => by omega) (fun q => by omega)
theorem Sim.setm (h : Sim b x d np v r) {z : Int32} : Sim b x d np (u2 v 0 7 z) (u2 r 0 24 z) := h.up .msg (h.ok.c0 (by omega)) (h.okM.fr (by omega)) (fun q => by omega) (fun q => by omega)
theorem Sim.setv (h : Sim b x d np v r) {z : Int32} : Sim b x d np (u2 v 0 9 z) (u2 r 0 26 z) := h.up .giv (h.ok.c0 (by omega)) (h.okM.fr (by omega)) (fun q => by omega) (fun q => by omega)
/-- the lowest node with a right -/
theorem low_eq (h : Sim b x d np v r) {j : Nat} (hj : j < 8) : mLow (u2 r 21 j 3) j = u2 r 21 j (cLow v j) := by
  have r0 := h.right hj (n := 0) (by omega)
  have r1 := h.right hj (n := 1) (by omega)
  have r2 := h.right hj (n := 2) (by omega)
  unfold mLow cLow
  simp only [cLowL]
  rw [r0, r1, r2]
  have e : ∀ (R : Vs) (z : Int32) (q : Nat), u2 R 21 j z 19 q = R 19 q := fun R z q => by rw [u2_oth (by omega)]
  rw [e]
  by_cases c2 : r 19 (8 * 2 + j) = 0
  · rw [if_pos c2, if_pos c2, e]
    by_cases c1 : r 19 (8 * 1 + j) = 0
    · rw [if_pos c1, if_pos c1, e]
      by_cases c0 : r 19 (8 * 0 + j) = 0
      · rw [if_pos c0, if_pos c0]
      · rw [if_neg c0, if_neg c0, u2_u2]; rfl
    · rw [if_neg c1, if_neg c1, u2_u2, e]
      by_cases c0 : r 19 (8 * 0 + j) = 0
      · rw [if_pos c0, if_pos c0]; rfl
      · rw [if_neg c0, if_neg c0, u2_u2]; rfl
  · rw [if_neg c2, if_neg c2, u2_u2, e]
    by_cases c1 : r 19 (8 * 1 + j) = 0
    · rw [if_pos c1, if_pos c1, e]
      by_cases c0 : r 19 (8 * 0 + j) = 0
      · rw [if_pos c0, if_pos c0]; rfl
      · rw [if_neg c0, if_neg c0, u2_u2]; rfl
    · rw [if_neg c1, if_neg c1, u2_u2, e]
      by_cases c0 : r 19 (8 * 0 + j) = 0
      · rw [if_pos c0, if_pos c0]; rfl
      · rw [if_neg c0, if_neg c0, u2_u2]; rfl
/-- a node gives up a page -/
theorem Sim.give (h : Sim b x d np v r) {o n : Nat} {y : Int32} (ho : mOldL r n 8 0 8 = o) (ho8 : o < 8) (hn : n < 3) : Sim b x d np (cGive v o y n) (mGiv r y n) := by
  have h8 : ¬ nI o = 8 := fun e => by have := (nI_eq (a := o) (b := 8) (by omega) (by omega)).mp e; omega
  unfold mGiv cGive
  try dsimp only
  rw [ho, if_neg h8]
  have hg : v 0 9 = r 0 26 := h.D _ _ _ _ .giv
  have h1 := (h.setv (z := r 0 26 + 1)).setg (z := 0) ho8 hn (Or.inl rfl)
  rw [hg, u2_a (k := 19) (k' := 0) (by omega), ← u2_comm (k := 0) (j := 26) (k' := 19) (by omega)]
  have hown := h1.D _ _ _ _ (.own ho8)
  rw [hown]
  by_cases c : u2 (u2 r 0 26 (r 0 26 + 1)) 19 (8 * n + o) 0 21 o = y
  · rw [if_pos c, if_pos c]
    rw [low_eq h1 ho8]
    have h2 := h1.seto (z := cLow (u2 (u2 v 0 9 (r 0 26 + 1)) (28 + 5 * o + 1) n 0) o) ho8
    generalize cLow (u2 (u2 v 0 9 (r 0 26 + 1)) (28 + 5 * o + 1) n 0) o = z at h2 ⊢
    have hm := h2.D _ _ _ _ .msg
    unfold mGivE
    rw [u2_s, u2_s, hm]
    by_cases c3 : z = 3
    · rw [if_pos c3, if_pos c3]
      exact h2.setm
    · rw [if_neg c3, if_neg c3]
      have e0 : u2 (u2 (u2 (u2 v 0 9 (r 0 26 + 1)) (28 + 5 * o + 1) n 0) (28 + 5 * o) 3 z) 0 7 (u2 (u2 (u2 r 0 26 (r 0 26 + 1)) 19 (8 * n + o) 0) 21 o z 0 24 + 0) = u2 (u2 (u2 v 0 9 (r 0 26 + 1)) (28 + 5 * o + 1) n 0) (28 + 5 * o) 3 z := u2_id (by rw [hm]; exact (Int32.add_zero _).symm)
      rw [e0]
      exact h2
  · rw [if_neg c, if_neg c]
    exact h1
/-- room for one page more -/
theorem Sim.room (h : Sim b x d np v r) {n : Nat} {y : Int32} (hn : n < 3) : Sim b x d np (cRoom v y n) (if nI (mHeld r n) = 3 then mGiv r y n else r) := by
  have hs := old_spec h hn 8 0 0 none 8 (by omega) rfl
  unfold cRoom mHeld
  generalize hc : cOld v n 8 0 0 none = c at hs
  obtain ⟨c1, c2⟩ := c
  obtain ⟨e1, e2⟩ := hs
  rw [← e1]
  cases c2 with
  | none =>
    have e2 : mOldL r n 8 0 8 = 8 := e2
    simp only [cRoomE]
    have : mGiv r y n = r := by
      unfold mGiv
      try dsimp only
      rw [e2, if_pos (by rfl)]
    rw [this]
    split <;> exact h
  | some q =>
    obtain ⟨e2, hq⟩ := (show mOldL r n 8 0 8 = q ∧ q < 8 from e2)
    simp only [cRoomE]
    by_cases c3 : nI c1 = 3
    · rw [if_pos c3, if_pos c3]
      exact h.give e2 hq hn
    · rw [if_neg c3, if_neg c3]
      exact h
end SX
