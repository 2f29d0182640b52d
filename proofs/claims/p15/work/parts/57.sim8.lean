section SS
variable {b x np : Nat} {d : Int32} {v r : Vs}
theorem tick_u2 {k j : Nat} {z : Int32} (h : k ≠ 0 ∨ j ≠ 23) : mTick (u2 r k j z) = u2 (mTick r) k j z := by
  unfold mTick
  rw [u2_a (by omega), u2_comm (by omega)]
theorem tick_oth {k : Nat} (h : k ≠ 0) : mTick r k = r k := u2_oth h
theorem tick_0 {j : Nat} (h : j ≠ 23) : mTick r 0 j = r 0 j := u2_n h
theorem fl0_eq {i : Nat} {op y : Int32} : mFl0 r i op y = u2 (u2 (u2 (u2 (mTick (u2 (u2 r 9 i 2) 14 i (y / 4))) 16 i (y / 4)) 17 i (if op = 2 then 0 else 1)) 15 i (mTick (u2 (u2 r 9 i 2) 14 i (y / 4)) 0 23)) 0 25 (r 0 25 + 1) := by
  have e1 : mTick (u2 (u2 (u2 r 0 25 (r 0 25 + 1)) 9 i 2) 14 i (y / 4)) = u2 (mTick (u2 (u2 r 9 i 2) 14 i (y / 4))) 0 25 (r 0 25 + 1) := by
    rw [u2_comm (k := 0) (k' := 9) (by omega), u2_comm (k := 0) (k' := 14) (by omega), tick_u2 (by omega)]
  unfold mFl0
  dsimp only
  rw [e1]
  generalize mTick (u2 (u2 r 9 i 2) 14 i (y / 4)) = R
  have e2 : (if op = 2 then u2 (u2 (u2 (u2 R 0 25 (r 0 25 + 1)) 15 i (u2 R 0 25 (r 0 25 + 1) 0 23)) 16 i (y / 4)) 17 i 0 else u2 (u2 (u2 (u2 R 0 25 (r 0 25 + 1)) 15 i (u2 R 0 25 (r 0 25 + 1) 0 23)) 16 i (y / 4)) 17 i 1) = u2 (u2 (u2 (u2 R 0 25 (r 0 25 + 1)) 15 i (u2 R 0 25 (r 0 25 + 1) 0 23)) 16 i (y / 4)) 17 i (if op = 2 then 0 else 1) := by
    split <;> rfl
  rw [e2, u2_a (k' := 0) (j' := 23) (by omega)]
  rw [u2_comm (k := 0) (k' := 15) (by omega), u2_comm (k := 0) (k' := 16) (by omega), u2_comm (k := 0) (k' := 17) (by omega)]
  rw [u2_comm (k := 15) (k' := 16) (by omega), u2_comm (k := 15) (k' := 17) (by omega)]
/-- a fault -/
theorem Sim.block (h : Sim b 8 d np v r) {i j : Nat} {op y y' : Int32} (hi : i < np) (hj : j < 8) (hs : r 9 i = 1) (hop : (op = 2 ∧ y = 1) ∨ (¬ op = 2 ∧ y = 2)) (hy : y' / 4 = nI j) (hb : b + 1 < 2 ^ 30) : Sim (b + 1) 8 d np (cBlock v i (nI j) j y) (mFl0 r i op y') := by
  have hle := h.le
  have h15 : r 15 i = 0 := by
    by_cases q : r 15 i = 0
    · exact q
    · rcases h.rs i hi (by omega) q with e | e <;> rw [hs] at e <;> exact absurd e (by decide)
  have h1 := h.rem hi
  have h2 := h1.up (z := 2) (.state hi) (h1.ok.fr (by omega)) (h1.okM.fr (by omega)) (fun _ => rfl) (fun q => by omega)
  have h3 := h2.upv (o := 9) (z := nI j) (by omega)
  have h4 := h3.upv (o := 10) (z := y) (by omega)
  have h5 := h4.upr (o := 14) (z := nI j) (by omega)
  have lt := tick_lt h5
  have h6 := h5.tick hb
  have e15 : mTick (u2 (u2 r 9 i 2) 14 i (nI j)) 15 i = 0 := by rw [tick_oth (by omega), u2_oth (by omega), u2_oth (by omega)]; exact h15
  have h7 := h6.upr (o := 16) (z := nI j) (Or.inr (Or.inr (Or.inr ⟨rfl, e15⟩)))
  have h8 := h7.upr (o := 17) (z := if op = 2 then 0 else 1) (by omega)
  have h9 := h8.ask hi hj (by rw [u2_oth (by omega), u2_oth (by omega)]; exact e15) (by rw [u2_oth (by omega), u2_s]) (fun q hq => by rw [nv_u2a (by omega), nv_u2a (by omega), nv_u2a (by omega), nv_u2a (by omega)]; exact lt.2.1 q hq) (by rw [nv_u2a (by omega), nv_u2a (by omega)]; exact lt.2.2.2)
  rw [fl0_eq, hy]
  unfold cBlock cLeave
  dsimp only
  rw [u2_a (k' := 0) (j' := 23) (by omega), u2_a (k' := 0) (j' := 23) (by omega)] at h9
  have hf := h9.D _ _ _ _ .flt
  have h10 := h9.up (z := r 0 25 + 1) .flt (h9.ok.c0 (by omega)) (h9.okM.fr (by omega)) (fun q => by omega) (fun q => by omega)
  rw [hf]
  rw [u2_a (k' := 0) (j' := 25) (by omega), u2_a (k' := 0) (j' := 25) (by omega), u2_a (k' := 0) (j' := 25) (by omega), tick_0 (by omega), u2_a (k' := 0) (j' := 25) (by omega), u2_a (k' := 0) (j' := 25) (by omega)]
  have ep := h.pln hi
  have oA : ∀ (V : Vs) (z : Int32) (o : Nat), cApp V (28 + 5 * j + 3) z (68 + 3 * i) o = V (68 + 3 * i) o := fun V z o => by rw [cApp_oth (by omega)]
  refine h10.show ?_ (fun _ => ?_) (fun _ q => ?_) (fun _ _ => ?_) (fun _ _ => ?_)
  · rw [u2_oth (by omega), u2_oth (by omega), u2_oth (by omega), u2_oth (by omega), tick_oth (by omega), u2_oth (by omega), u2_s]; decide
  · rw [u2_oth (by omega), u2_oth (by omega), u2_oth (by omega), u2_oth (by omega), tick_oth (by omega), u2_s]
    rw [u2_oth (v := cApp _ _ _) (by omega), oA, oA, u2_a (by omega), u2_a (by omega), u2_s, if_pos rfl, u2_a (by omega), u2_s]
  · rw [u2_oth (v := cApp _ _ _) (by omega), oA, u2_a (by omega), u2_a (by omega), u2_s] at q
    exact absurd q (by decide)
  · rw [u2_oth (by omega), u2_oth (by omega), u2_s, u2_oth (v := cApp _ _ _) (by omega), oA, u2_s]
    rcases hop with ⟨a, c⟩ | ⟨a, c⟩
    · rw [if_pos a, c]; rfl
    · rw [if_neg a, c]; rfl
  · rw [u2_oth (by omega), u2_oth (by omega), u2_oth (by omega), u2_oth (by omega), tick_oth (by omega), u2_oth (by omega), u2_s]; exact Or.inl rfl
theorem cUse_u2 {k c j n : Nat} {z : Int32} (h : k ≠ 0) (h2 : k ≠ 28 + 5 * j + 2) : cUse (u2 v k c z) j n = u2 (cUse v j n) k c z := by
  unfold cUse
  dsimp only
  rw [u2_s, u2_s, u2_a (k' := 0) (by omega), u2_comm (k := k) (k' := 0) (by omega), u2_comm (k := k) (k' := 28 + 5 * j + 2) (by omega)]
theorem cUse_oth {k j n : Nat} (h : k ≠ 0) (h2 : k ≠ 28 + 5 * j + 2) : cUse v j n k = v k := by
  unfold cUse
  try dsimp only
  rw [u2_oth h2, u2_oth h]
theorem Sim.rg (h : Sim b x d np v r) {i a : Nat} (hi : i < np) (ha : a < 4) : v (68 + 3 * i + 1) a = r 6 (4 * i + a) := h.D _ _ _ _ (.reg hi ha)
theorem Sim.setr (h : Sim b x d np v r) {i a : Nat} {z : Int32} (hi : i < np) (ha : a < 4) : Sim b x d np (u2 v (68 + 3 * i + 1) a z) (u2 r 6 (4 * i + a) z) := h.up (.reg hi ha) h.ok.rg (h.okM.fr (by omega)) (fun q => by omega) (fun q => by omega)
theorem Sim.setw (h : Sim b x d np v r) {w : Nat} {z : Int32} (hw : w < 32) : Sim b x d np (u2 v 5 w z) (u2 r 18 w z) := h.up (.mem hw) h.ok.m5 (h.okM.fr (by omega)) (fun q => by omega) (fun q => by omega)
/-- LOAD, STORE, CAS -/
theorem Sim.acc (h : Sim b 8 d np v r) {i a c : Nat} {op : Int32} (hi : i < np) (ha : a < 4) (hc : c < 4) (hb : b + 1 < 2 ^ 30) : Sim (b + 1) 8 d np (cAcc v i op a c) (mTch r i op (4 * i + a) (bl (r 6 (4 * i + c)) 31)) := by
  have hle := h.le
  obtain ⟨p1, p2, p3⟩ := h.pln hi
  unfold cAcc
  try dsimp only
  rw [h.rg hi hc, p1]
  have hw : bl (r 6 (4 * i + c)) 31 < 32 := bl_lt _ 31
  generalize bl (r 6 (4 * i + c)) 31 = w at hw
  have hwm : v 5 w = r 18 w := h.D _ _ _ _ (.mem hw)
  generalize hp : nv r 8 i = p at p2
  have oU : ∀ k, 5 ≤ k → k < 28 ∨ 68 ≤ k → cUse v (w / 4) p k = v k := fun k q1 q2 => cUse_oth (by omega) (by omega)
  have fin : ∀ (v' : Vs) , Sim b 8 d np v' (mTch0 r i op (4 * i + a) w) → Sim (b + 1) 8 d np (cUse v' (w / 4) p) (mTch r i op (4 * i + a) w) := fun v' q => by
    have e8 : nv (mTch0 r i op (4 * i + a) w) 8 i = p := by
      rw [← hp]
      unfold mTch0 nv
      by_cases c2 : op = 2
      · rw [if_pos c2, u2_oth (by omega)]
      · rw [if_neg c2]
        by_cases c3 : op = 3
        · rw [if_pos c3, u2_oth (by omega)]
        · rw [if_neg c3]
          by_cases c4 : r 18 w = r 6 (4 * i + 3)
          · rw [if_pos c4]; (try dsimp only); rw [u2_oth (by omega), u2_oth (by omega)]
          · rw [if_neg c4, u2_oth (by omega)]
    have := q.use (j := w / 4) (n := p) (by omega) p2 hb
    unfold mTch
    dsimp only
    rw [e8]
    exact this
  by_cases c2 : op = 2
  · rw [if_pos c2, oU 5 (by omega) (by omega), ← cUse_u2 (by omega) (by omega)]
    refine fin _ ?_
    unfold mTch0
    rw [if_pos c2, hwm]
    exact h.setr hi ha
  · rw [if_neg c2]
    by_cases c3 : op = 3
    · rw [if_pos c3, oU (68 + 3 * i + 1) (by omega) (by omega), ← cUse_u2 (by omega) (by omega)]
      refine fin _ ?_
      unfold mTch0
      rw [if_neg c2, if_pos c3, h.rg hi ha]
      exact h.setw hw
    · rw [if_neg c3, oU 5 (by omega) (by omega), oU (68 + 3 * i + 1) (by omega) (by omega), h.rg hi (a := 3) (by omega), hwm, h.rg hi ha]
      by_cases c4 : r 18 w = r 6 (4 * i + 3)
      · rw [if_pos c4, ← cUse_u2 (by omega) (by omega), ← cUse_u2 (by omega) (by omega)]
        refine fin _ ?_
        unfold mTch0
        rw [if_neg c2, if_neg c3, if_pos c4]
        exact (h.setw hw).setr hi (by omega)
      · rw [if_neg c4, ← cUse_u2 (by omega) (by omega)]
        refine fin _ ?_
        unfold mTch0
        rw [if_neg c2, if_neg c3, if_neg c4]
        exact h.setr hi (by omega)
end SS
