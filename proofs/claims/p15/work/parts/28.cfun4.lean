/-! spawn, perform, runFirst, step -/
theorem okLt_nn {b : Nat} {y : Int32} (h : okLt b y) (hb : b ≤ 100) : y = nI (nn y) ∧ nn y < b := by
  obtain ⟨n, hn, e⟩ := h
  have h1 : nn y = n := by rw [nn, e, nI_clamp (by omega)]
  rw [h1]
  exact ⟨e, hn⟩
theorem okLt_of {b n : Nat} {y : Int32} (e : y = nI n) (h : n < b) : okLt b y := ⟨n, h, e⟩
def mSpawn (np : Nat) (v : Vs) (x y : Int32) : Int32 × Nat × Vs :=
  if inI x 4 then (if inI y 3 then (if v 0 5 = 8 then (-2, np, v) else (nI np, np + 1, cMake v np x y)) else (-1, np, v)) else (-1, np, v)
def cPerf (np : Nat) (v : Vs) (i : Nat) (op : Int32) (a : Nat) (y : Int32) : Nat × Vs :=
  if op = 0 then (np, u2 (u2 v (68 + 3 * i + 1) a y) (68 + 3 * i) 6 (v (68 + 3 * i) 6 + 1))
  else if op = 1 then (np, u2 (u2 v (68 + 3 * i + 1) a (v (68 + 3 * i + 1) a + v (68 + 3 * i + 1) (nn y))) (68 + 3 * i) 6 (v (68 + 3 * i) 6 + 1))
  else if op = 2 then (np, u2 (cAcc v i op a (nn y)) (68 + 3 * i) 6 (v (68 + 3 * i) 6 + 1))
  else if op = 3 then (np, u2 (cAcc v i op a (nn y)) (68 + 3 * i) 6 (v (68 + 3 * i) 6 + 1))
  else if op = 4 then (np, u2 (cAcc v i op a (nn y)) (68 + 3 * i) 6 (v (68 + 3 * i) 6 + 1))
  else if op = 5 then (if v (68 + 3 * i + 1) a = 0 then (np, u2 v (68 + 3 * i) 6 (v (68 + 3 * i) 6 + 1)) else (np, u2 v (68 + 3 * i) 6 y))
  else if op = 6 then (if v 0 5 = 8 then (np, u2 (u2 v (68 + 3 * i + 1) a (-1)) (68 + 3 * i) 6 (v (68 + 3 * i) 6 + 1))
    else (np + 1, u2 (u2 (cMake v np y (v (68 + 3 * i) 4)) (68 + 3 * i + 1) a (nI np)) (68 + 3 * i) 6 (v (68 + 3 * i) 6 + 1)))
  else if op = 7 then (if cWait v i a (68 + 3 * i) 5 = 3 then (np, u2 (cWait v i a) (68 + 3 * i) 6 (cWait v i a (68 + 3 * i) 6)) else (np, u2 (cWait v i a) (68 + 3 * i) 6 (v (68 + 3 * i) 6 + 1)))
  else if op = 8 then (np, u2 (cKill np v i a) (68 + 3 * i) 6 (v (68 + 3 * i) 6 + 1))
  else if op = 9 then (np, u2 (cEnd np v i (v (68 + 3 * i + 1) a)) (68 + 3 * i) 6 (v (68 + 3 * i) 6 + 1))
  else if op = 10 then (np, u2 (u2 v (68 + 3 * i + 1) a (v (68 + 3 * i) 0)) (68 + 3 * i) 6 (v (68 + 3 * i) 6 + 1))
  else if op = 11 then (np, u2 (u2 v (68 + 3 * i + 1) a (v (68 + 3 * i) 4)) (68 + 3 * i) 6 (v (68 + 3 * i) 6 + 1))
  else (np, u2 v (68 + 3 * i) 6 (v (68 + 3 * i) 6 + 1))
def cRest (np : Nat) (v : Vs) (i : Nat) (op a b : Int32) : Nat × Vs :=
  if (cPerf np v i op (nn a) b).2 (68 + 3 * i) 5 = 1 then (if op = 12 then ((cPerf np v i op (nn a) b).1, cSpend (cPerf np v i op (nn a) b).2 i 1) else ((cPerf np v i op (nn a) b).1, cSpend (cPerf np v i op (nn a) b).2 i 0))
  else cPerf np v i op (nn a) b
def cRun (np : Nat) (v : Vs) (i : Nat) : Nat × Vs :=
  let pg := nv v (68 + 3 * i) 1
  let ct := nv v (68 + 3 * i) 6
  if v (68 + 3 * i) 6 < v (6 + 4 * pg) 3 then
    (if v (6 + 4 * pg + 1) ct = 2 ∨ v (6 + 4 * pg + 1) ct = 3 ∨ v (6 + 4 * pg + 1) ct = 4 then
      (let z := v (68 + 3 * i + 1) (nn (v (6 + 4 * pg + 3) ct))
      if v (6 + 4 * pg + 1) ct = 2 then
        (if 1 ≤ v (28 + 5 * (bl z 31 / 4) + 1) (nv v (68 + 3 * i) 4) then cRest np v i (v (6 + 4 * pg + 1) ct) (v (6 + 4 * pg + 2) ct) (v (6 + 4 * pg + 3) ct) else (np, cBlock v i (fmod z 32 / 4) (bl z 31 / 4) 1))
      else
        (if 2 ≤ v (28 + 5 * (bl z 31 / 4) + 1) (nv v (68 + 3 * i) 4) then cRest np v i (v (6 + 4 * pg + 1) ct) (v (6 + 4 * pg + 2) ct) (v (6 + 4 * pg + 3) ct) else (np, cBlock v i (fmod z 32 / 4) (bl z 31 / 4) 2)))
    else cRest np v i (v (6 + 4 * pg + 1) ct) (v (6 + 4 * pg + 2) ct) (v (6 + 4 * pg + 3) ct))
  else (np, cEnd np v i 0)
def mStep (np : Nat) (v : Vs) (x : Int32) : Int32 × Nat × Vs :=
  if inI x 3 then (if v (22 + 2 * nn x) 1 = 0 then (-3, np, v) else
    (10 * ((cRun np v (nv v (22 + 2 * nn x + 1) 0)).2 (68 + 3 * nv v (22 + 2 * nn x + 1) 0) 5 - 1) + (cRun np v (nv v (22 + 2 * nn x + 1) 0)).2 (68 + 3 * nv v (22 + 2 * nn x + 1) 0) 0, cRun np v (nv v (22 + 2 * nn x + 1) 0)))
  else (-1, np, v)
theorem sw_12 (x : Int32) : (x.toInt < 0 ∨ 11 < x.toInt) ∨ x = 0 ∨ x = 1 ∨ x = 2 ∨ x = 3 ∨ x = 4 ∨ x = 5 ∨ x = 6 ∨ x = 7 ∨ x = 8 ∨ x = 9 ∨ x = 10 ∨ x = 11 := by
  have key : ∀ (k : Int32), x.toInt = k.toInt → x = k := fun k h => Int32.toInt_inj.mp h
  by_cases h : x.toInt < 0 ∨ 11 < x.toInt
  · exact Or.inl h
  · refine Or.inr ?_
    rcases (show x.toInt = 0 ∨ x.toInt = 1 ∨ x.toInt = 2 ∨ x.toInt = 3 ∨ x.toInt = 4 ∨ x.toInt = 5 ∨ x.toInt = 6 ∨ x.toInt = 7 ∨ x.toInt = 8 ∨ x.toInt = 9 ∨ x.toInt = 10 ∨ x.toInt = 11 by omega) with h | h | h | h | h | h | h | h | h | h | h | h
    · rw [key 0 h]; decide
    · rw [key 1 h]; decide
    · rw [key 2 h]; decide
    · rw [key 3 h]; decide
    · rw [key 4 h]; decide
    · rw [key 5 h]; decide
    · rw [key 6 h]; decide
    · rw [key 7 h]; decide
    · rw [key 8 h]; decide
    · rw [key 9 h]; decide
    · rw [key 10 h]; decide
    · rw [key 11 h]; decide
section OKI
variable {np : Nat} {v : Vs}
theorem Ok.ct (h : Ok np v) {i : Nat} {x : Int32} (hx : okLt 13 x) : Ok np (u2 v (68 + 3 * i) 6 x) := h.set (by omega) (okS_counter hx)
/-- an instruction as a program may have it -/
def okI (op a y : Int32) : Prop := okLt 4 a ∧ (op ≠ 0 → op ≠ 5 → okLt 4 y) ∧ (op = 5 → okLt 12 y)
/-- Ok, with at most one process more -/
def okT (np : Nat) (z : Nat × Vs) : Prop := Ok z.1 z.2 ∧ np ≤ z.1 ∧ z.1 ≤ np + 1
theorem okT_same {w : Vs} (h : Ok np w) : okT np (np, w) := ⟨h, Nat.le_refl _, Nat.le_succ _⟩
theorem okT_more {w : Vs} (h : Ok (np + 1) w) : okT np (np + 1, w) := ⟨h, Nat.le_succ _, Nat.le_refl _⟩
theorem Ok.lt8 (h : Ok np v) (c8 : ¬ v 0 5 = 8) : np < 8 := by
  have hle := h.1
  have : ¬ np = 8 := fun e => c8 (by rw [h.made.1, e]; rfl)
  omega
theorem Ok.perf (h : Ok np v) {i a : Nat} {op y : Int32} (hi : i < np) (hct : nv v (68 + 3 * i) 6 < 12) (h4 : op ≠ 0 → op ≠ 5 → okLt 4 y) (h5 : op = 5 → okLt 12 y) : okT np (cPerf np v i op a y) := by
  have hn : okLt 13 (v (68 + 3 * i) 6 + 1) := okLt_of (n := nv v (68 + 3 * i) 6 + 1) (ni_add (h.counter hi).1 rfl) (by omega)
  have hw := h.wait (a := a) hi
  unfold cPerf
  by_cases e0 : op = 0
  · rw [if_pos e0]; exact okT_same (h.rg.ct hn)
  rw [if_neg e0]
  by_cases e1 : op = 1
  · rw [if_pos e1]; exact okT_same (h.rg.ct hn)
  rw [if_neg e1]
  by_cases e2 : op = 2
  · rw [if_pos e2]; exact okT_same (h.acc.ct hn)
  rw [if_neg e2]
  by_cases e3 : op = 3
  · rw [if_pos e3]; exact okT_same (h.acc.ct hn)
  rw [if_neg e3]
  by_cases e4 : op = 4
  · rw [if_pos e4]; exact okT_same (h.acc.ct hn)
  rw [if_neg e4]
  by_cases e5 : op = 5
  · rw [if_pos e5]
    by_cases c : v (68 + 3 * i + 1) a = 0
    · rw [if_pos c]; exact okT_same (h.ct hn)
    · rw [if_neg c]
      obtain ⟨n, q1, q2⟩ := h5 e5
      exact okT_same (h.ct ⟨n, by omega, q2⟩)
  rw [if_neg e5]
  by_cases e6 : op = 6
  · rw [if_pos e6]
    by_cases c : v 0 5 = 8
    · rw [if_pos c]; exact okT_same (h.rg.ct hn)
    · rw [if_neg c]; exact okT_more ((h.make (h.lt8 c) (h4 e0 e5) ⟨_, (h.place hi).2, (h.place hi).1⟩).rg.ct hn)
  rw [if_neg e6]
  by_cases e7 : op = 7
  · rw [if_pos e7]
    by_cases c : cWait v i a (68 + 3 * i) 5 = 3
    · rw [if_pos c]; exact okT_same (hw.ct ⟨_, (hw.counter hi).2, (hw.counter hi).1⟩)
    · rw [if_neg c]; exact okT_same (hw.ct hn)
  rw [if_neg e7]
  by_cases e8 : op = 8
  · rw [if_pos e8]; exact okT_same (h.kill.ct hn)
  rw [if_neg e8]
  by_cases e9 : op = 9
  · rw [if_pos e9]; exact okT_same ((h.end hi).ct hn)
  rw [if_neg e9]
  by_cases e10 : op = 10
  · rw [if_pos e10]; exact okT_same (h.rg.ct hn)
  rw [if_neg e10]
  by_cases e11 : op = 11
  · rw [if_pos e11]; exact okT_same (h.rg.ct hn)
  rw [if_neg e11]
  exact okT_same (h.ct hn)
theorem Ok.rest (h : Ok np v) {i : Nat} {op a y : Int32} (hi : i < np) (hct : nv v (68 + 3 * i) 6 < 12) (h4 : op ≠ 0 → op ≠ 5 → okLt 4 y) (h5 : op = 5 → okLt 12 y) : okT np (cRest np v i op a y) := by
  have hp := h.perf (a := nn a) hi hct h4 h5
  unfold cRest
  generalize cPerf np v i op (nn a) y = z at hp ⊢
  have hz : i < z.1 := by have := hp.2; omega
  split
  · split
    · exact ⟨hp.1.spend (y := 1) hz, hp.2⟩
    · exact ⟨hp.1.spend (y := 0) hz, hp.2⟩
  · exact hp
theorem Ok.ins (h : Ok np v) {i : Nat} (hi : i < np) (hlt : v (68 + 3 * i) 6 < v (6 + 4 * nv v (68 + 3 * i) 1) 3) : nv v (68 + 3 * i) 6 < 12 ∧ okLt 13 (v (6 + 4 * nv v (68 + 3 * i) 1 + 1) (nv v (68 + 3 * i) 6)) ∧ okI (v (6 + 4 * nv v (68 + 3 * i) 1 + 1) (nv v (68 + 3 * i) 6)) (v (6 + 4 * nv v (68 + 3 * i) 1 + 2) (nv v (68 + 3 * i) 6)) (v (6 + 4 * nv v (68 + 3 * i) 1 + 3) (nv v (68 + 3 * i) 6)) := by
  have hpg := (h.program hi).2
  have hc := h.counter hi
  have hs := h.psize hpg
  have hn := ni_lt hc.1 hs.1 (by omega) (by omega) hlt
  obtain ⟨a1, a2, a3, a4⟩ := (h.2.2 _ hpg).2 _ hn
  exact ⟨by omega, a1, a2, a3, a4⟩
theorem Ok.run (h : Ok np v) {i : Nat} (hi : i < np) : okT np (cRun np v i) := by
  unfold cRun
  dsimp only
  split
  · next c =>
    obtain ⟨b1, b2, b3, b4, b5⟩ := h.ins hi c
    have hb : ∀ x y j, Ok np (cBlock v i x (bl j 31 / 4) y) := fun x y j => h.block hi (by have := bl_lt j 31; omega)
    split
    · split
      · split
        · exact h.rest hi b1 b4 b5
        · exact okT_same (hb _ _ _)
      · split
        · exact h.rest hi b1 b4 b5
        · exact okT_same (hb _ _ _)
    · exact h.rest hi b1 b4 b5
  · exact okT_same (h.end hi)
theorem Ok.first (h : Ok np v) {k : Nat} (hk : isLn k) (c : ¬ v k 1 = 0) : 0 < np ∧ nv v (k + 1) 0 < np := by
  obtain ⟨e, b, c2⟩ := h.size hk
  have h0 : 0 < nv v k 1 := by
    rcases Nat.eq_zero_or_pos (nv v k 1) with q | q
    · exact absurd (by rw [e, q]; rfl) c
    · exact q
  exact ⟨c2 h0, (h.item hk 0 (c2 h0)).2⟩
theorem Ok.step (h : Ok np v) {x : Int32} : okT np (mStep np v x).2 := by
  unfold mStep
  split
  · next c =>
    split
    · exact okT_same h
    · next c2 => exact h.run (h.first (ln_node (inI_nn (N := 3) rfl (by omega) c).2) c2).2
  · exact okT_same h
theorem Ok.spawn (h : Ok np v) {x y : Int32} : okT np (mSpawn np v x y).2 := by
  unfold mSpawn
  split
  · next c =>
    split
    · next c2 =>
      split
      · exact okT_same h
      · next c8 =>
        have q1 := inI_nn (N := 4) rfl (by omega) c
        have q2 := inI_nn (N := 3) rfl (by omega) c2
        exact okT_more (h.make (h.lt8 c8) ⟨_, q1.2, q1.1⟩ ⟨_, q2.2, q2.1⟩)
    · exact okT_same h
  · exact okT_same h
end OKI
