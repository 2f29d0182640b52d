/-! more of the class's methods -/
def cUse (v : Vs) (j n : Nat) : Vs :=
  let v1 := u2 v 0 6 (v 0 6 + 1)
  u2 v1 (28 + 5 * j + 2) n (v1 0 6)
def cBlock (v : Vs) (i : Nat) (x : Int32) (j : Nat) (y : Int32) : Vs :=
  let v1 := cLeave v i 2
  let v2 := u2 v1 (68 + 3 * i) 9 x
  let v3 := u2 v2 (68 + 3 * i) 10 y
  let v4 := cApp v3 (28 + 5 * j + 3) (v3 (68 + 3 * i) 0)
  u2 v4 0 8 (v4 0 8 + 1)
/-- to the end of its line -/
def cAgain (v : Vs) (i : Nat) : Vs := cJoin (cRem v (22 + 2 * nv v (68 + 3 * i) 4) (v (68 + 3 * i) 0)) i
def cSpend (v : Vs) (i : Nat) (y : Int32) : Vs :=
  let v1 := u2 v (68 + 3 * i) 7 (v (68 + 3 * i) 7 + 1)
  if y = 0 then (if v1 (68 + 3 * i) 7 = 3 then cAgain v1 i else v1) else cAgain v1 i
abbrev othP (v : Vs) (i : Nat) (x : Int32) : Prop := inI x (v 0 5) ∧ ¬ x = v (68 + 3 * i) 0
def cWait (v : Vs) (i a : Nat) : Vs :=
  if othP v i (v (68 + 3 * i + 1) a) then
    (if v (68 + 3 * nv v (68 + 3 * i + 1) a) 5 = 4 then u2 v (68 + 3 * i + 1) a (v (68 + 3 * nv v (68 + 3 * i + 1) a) 8)
    else u2 (cLeave v i 3) (68 + 3 * i) 11 (v (68 + 3 * i + 1) a))
  else u2 v (68 + 3 * i + 1) a (-1)
def cKill (np : Nat) (v : Vs) (i a : Nat) : Vs :=
  if othP v i (v (68 + 3 * i + 1) a) then
    (if v (68 + 3 * nv v (68 + 3 * i + 1) a) 5 = 4 then u2 v (68 + 3 * i + 1) a (-1)
    else u2 (cEnd np v (nv v (68 + 3 * i + 1) a) (-9)) (68 + 3 * i + 1) a 0)
  else u2 v (68 + 3 * i + 1) a (-1)
def cAcc (v : Vs) (i : Nat) (op : Int32) (a b : Nat) : Vs :=
  let w := bl (v (68 + 3 * i + 1) b) 31
  let v1 := cUse v (w / 4) (nv v (68 + 3 * i) 4)
  if op = 2 then u2 v1 (68 + 3 * i + 1) a (v1 5 w)
  else if op = 3 then u2 v1 5 w (v1 (68 + 3 * i + 1) a)
  else if v1 5 w = v1 (68 + 3 * i + 1) 3 then
    (let v2 := u2 v1 5 w (v1 (68 + 3 * i + 1) a)
    u2 v2 (68 + 3 * i + 1) 3 1)
  else u2 v1 (68 + 3 * i + 1) 3 0
def cLowL (v : Vs) (j : Nat) : Nat → Nat → Int32
  | 0, _ => 3
  | r + 1, i => if v (28 + 5 * j + 1) i = 0 then cLowL v j r (i + 1) else nI i
def cLow (v : Vs) (j : Nat) : Int32 := cLowL v j 3 0
def cGive (v : Vs) (j : Nat) (x : Int32) (n : Nat) : Vs :=
  let v1 := u2 v 0 9 (v 0 9 + 1)
  let v2 := u2 v1 (28 + 5 * j + 1) n 0
  if v2 (28 + 5 * j) 3 = x then
    (let v3 := u2 v2 (28 + 5 * j) 3 (cLow v2 j)
    if v3 (28 + 5 * j) 3 = 3 then u2 v3 0 7 (v3 0 7 + 1) else u2 v3 0 7 (v3 0 7 + 0))
  else v2
def cOld (v : Vs) (n : Nat) : Nat → Nat → Nat → Option Nat → Nat × Option Nat
  | 0, _, h, o => (h, o)
  | r + 1, i, h, none => if v (28 + 5 * i + 1) n = 0 then cOld v n r (i + 1) h none else cOld v n r (i + 1) (h + 1) (some i)
  | r + 1, i, h, some q => if v (28 + 5 * i + 1) n = 0 then cOld v n r (i + 1) h (some q) else if v (28 + 5 * q + 2) n ≤ v (28 + 5 * i + 2) n then cOld v n r (i + 1) (h + 1) (some q) else cOld v n r (i + 1) (h + 1) (some i)
def cRoomE (v : Vs) (x : Int32) (n : Nat) : Nat × Option Nat → Vs
  | (_, none) => v
  | (h, some q) => if nI h = 3 then cGive v q x n else v
def cRoom (v : Vs) (x : Int32) (n : Nat) : Vs := cRoomE v x n (cOld v n 8 0 0 none)
def cGWL (j : Nat) (x : Int32) : Nat → Nat → Int32 → Vs → Int32 × Vs
  | 0, _, lost, v => (lost, v)
  | r + 1, i, lost, v => if nI i = x then cGWL j x r (i + 1) lost v else if v (28 + 5 * j + 1) i = 0 then cGWL j x r (i + 1) lost v else cGWL j x r (i + 1) (lost + 1) (u2 v (28 + 5 * j + 1) i 0)
def cGW (v : Vs) (j : Nat) (x : Int32) (n : Nat) : Int32 × Vs := ((cGWL j x 3 0 0 v).1, u2 (u2 (cGWL j x 3 0 0 v).2 (28 + 5 * j + 1) n 2) (28 + 5 * j) 3 x)
def cGRL (j : Nat) (x : Int32) : Nat → Nat → Vs → Vs
  | 0, _, v => v
  | r + 1, i, v => if nI i = x then cGRL j x r (i + 1) v else if v (28 + 5 * j + 1) i = 2 then cGRL j x r (i + 1) (u2 v (28 + 5 * j + 1) i 1) else cGRL j x r (i + 1) v
def cGRE (v : Vs) (j : Nat) (x : Int32) (n : Nat) : Vs :=
  if v (28 + 5 * j + 1) n = 0 then
    (let v2 := u2 v (28 + 5 * j + 1) n 1
    if v2 (28 + 5 * j) 3 = 3 then u2 v2 (28 + 5 * j) 3 x else v2)
  else (if v (28 + 5 * j) 3 = 3 then u2 v (28 + 5 * j) 3 x else v)
def cGR (v : Vs) (j : Nat) (x : Int32) (n : Nat) : Vs := cGRE (cGRL j x 3 0 v) j x n
def cGrE (v : Vs) (j : Nat) (x : Int32) (n i : Nat) : Vs :=
  if v (68 + 3 * i) 10 = 2 then cJoin (cUse (u2 (cGW v j x n).2 0 7 (v 0 7 + (cGW v j x n).1)) j n) i
  else cJoin (cUse (cGR v j x n) j n) i
def cGrant (v : Vs) (j i : Nat) : Vs :=
  let x := v (68 + 3 * i) 4
  let n := nv v (68 + 3 * i) 4
  let v1 := u2 v 0 10 (v 0 10 + 1)
  let v2 := u2 v1 0 7 (v1 0 7 + 1)
  if v2 (28 + 5 * j + 1) n = 0 then cGrE (cRoom (u2 v2 0 7 (v2 0 7 + 1)) x n) j x n i else cGrE v2 j x n i
def cReqL (v : Vs) : Nat → Nat → Int32 → Int32
  | 0, _, a => a
  | r + 1, i, a => cReqL v r (i + 1) (a + v (28 + 5 * i + 3) 1)
def cRdyL (v : Vs) : Nat → Nat → Int32 → Int32
  | 0, _, a => a
  | r + 1, i, a => cRdyL v r (i + 1) (a + v (22 + 2 * i) 1)
theorem fmod32 (x : Int32) : fmod x 32 = nI (bl x 31) := by
  have h32 : (32 : Int32).toInt = 32 := by decide
  have hmin : Int32.minValue.toInt = -2147483648 := by decide
  have key : ∀ y : Int32, y.toInt = (bl x 31 : Int) → y = nI (bl x 31) := fun y h => Int32.toInt_inj.mp (by rw [h, nI_toInt (by have := bl_lt x 31; omega)])
  have hbl : (bl x 31 : Int) = x.toInt % 32 := by
    have e : x.toInt = x.toBitVec.toInt := rfl
    have hlt := x.toBitVec.isLt
    rw [e, BitVec.toInt_eq_toNat_cond]
    unfold bl
    split <;> omega
  have ht : (0 ≤ x.toInt ∧ x.toInt.tmod 32 = x.toInt % 32) ∨ (x.toInt < 0 ∧ x.toInt.tmod 32 = -((-x.toInt) % 32)) := by
    by_cases h : x.toInt < 0
    · refine Or.inr ⟨h, ?_⟩
      have h1 : x.toInt.tmod 32 = -((-x.toInt).tmod 32) := by rw [Int.neg_tmod, Int.neg_neg]
      rw [h1, Int.tmod_eq_emod_of_nonneg (by omega)]
    · exact Or.inl ⟨by omega, Int.tmod_eq_emod_of_nonneg (by omega)⟩
  have hdiv : (x / 32).toInt = x.toInt.tdiv 32 := by
    rw [Int32.toInt_div_of_ne_right _ _ (by decide), h32]
  have lo := Int32.minValue_le_toInt x
  have hi := Int32.toInt_lt x
  have hr : (x - x / 32 * 32).toInt = x.toInt.tmod 32 := by
    rw [Int32.toInt_sub, Int32.toInt_mul, hdiv, h32]
    have h1 := Int.tmod_add_mul_tdiv x.toInt 32
    have h2 : x.toInt.tdiv 32 * 32 = x.toInt - x.toInt.tmod 32 := by omega
    rw [h2]
    have h3 : (x.toInt - x.toInt.tmod 32).bmod (2 ^ 32) = x.toInt - x.toInt.tmod 32 := by
      apply Int.bmod_eq_of_le <;> omega
    rw [h3, show x.toInt - (x.toInt - x.toInt.tmod 32) = x.toInt.tmod 32 by omega]
    apply Int.bmod_eq_of_le <;> omega
  have hs : (0 ≤ x ^^^ 32) ↔ 0 ≤ x.toInt := by
    rw [Int32.le_iff_toInt_le]
    have e1 : (x ^^^ 32).toInt = (x.toBitVec ^^^ (32 : Int32).toBitVec).toInt := rfl
    have e2 : x.toInt = x.toBitVec.toInt := rfl
    have m1 := BitVec.msb_eq_toInt (x := x.toBitVec ^^^ (32 : Int32).toBitVec)
    have m2 := BitVec.msb_eq_toInt (x := x.toBitVec)
    rw [BitVec.msb_xor, show (32 : Int32).toBitVec.msb = false by decide, m2] at m1
    rw [e1, e2, show (0 : Int32).toInt = 0 by decide]
    generalize (x.toBitVec ^^^ (32 : Int32).toBitVec).toInt = z at m1 ⊢
    by_cases q : x.toBitVec.toInt < 0 <;> simp [q] at m1 <;> omega
  unfold fmod
  by_cases c : 0 ≤ x ^^^ 32
  · rw [if_pos c]
    have := hs.mp c
    exact key _ (by rw [hr]; omega)
  · rw [if_neg c]
    have hn : ¬ 0 ≤ x.toInt := fun h => c (hs.mpr h)
    by_cases c2 : x - x / 32 * 32 = 0
    · rw [if_pos c2]
      have h0 : x.toInt.tmod 32 = 0 := by rw [← hr, c2]; decide
      exact key _ (by rw [hr]; omega)
    · rw [if_neg c2]
      have h0 : ¬ x.toInt.tmod 32 = 0 := fun h => c2 (Int32.toInt_inj.mp (by rw [hr, h]; decide))
      refine key _ ?_
      rw [Int32.toInt_add, hr, h32, hbl]
      rw [show x.toInt.tmod 32 + 32 = x.toInt % 32 by omega]
      apply Int.bmod_eq_of_le <;> omega
section OKG
variable {np : Nat} {v : Vs}
theorem Ok.c0 (h : Ok np v) {j : Nat} {x : Int32} (hj : j ≠ 5) : Ok np (u2 v 0 j x) := h.set (by omega) (okS_free (by omega))
theorem Ok.pg (h : Ok np v) {k j : Nat} {x : Int32} (hk : 28 ≤ k ∧ k < 68 ∧ (k - 28) % 5 < 3) : Ok np (u2 v k j x) := h.set (by omega) (okS_free (by omega))
theorem Ok.rg (h : Ok np v) {i j : Nat} {x : Int32} : Ok np (u2 v (68 + 3 * i + 1) j x) := h.set (by omega) (okS_free (by omega))
theorem Ok.use (h : Ok np v) {j n : Nat} (hj : j < 8) : Ok np (cUse v j n) := (h.c0 (by omega)).pg (by omega)
theorem Ok.block (h : Ok np v) {i j : Nat} {x y : Int32} (hi : i < np) (hj : j < 8) : Ok np (cBlock v i x j y) := by
  have h3 := ((h.leave (st := 2) hi).fr (i := i) (j := 9) (x := x) (by omega)).fr (i := i) (j := 10) (x := y) (by omega)
  refine (h3.app (ln_page hj) (by omega) ?_).c0 (by omega)
  rw [(h3.number hi).1]
  exact okIt_of hi
theorem Ok.again (h : Ok np v) {i : Nat} (hi : i < np) : Ok np (cAgain v i) := (h.rem (ln_node (h.place hi).2) (by omega)).join hi
theorem Ok.spend (h : Ok np v) {i : Nat} {y : Int32} (hi : i < np) : Ok np (cSpend v i y) := by
  have h1 : Ok np (u2 v (68 + 3 * i) 7 (v (68 + 3 * i) 7 + 1)) := h.fr (by omega)
  unfold cSpend
  by_cases c : y = 0
  · simp only [if_pos c]
    split
    · exact h1.again hi
    · exact h1
  · simp only [if_neg c]; exact h1.again hi
theorem Ok.oth (h : Ok np v) {i : Nat} {k j : Nat} (c : othP v i (v k j)) : v k j = nI (nv v k j) ∧ nv v k j < np := by
  have := h.1
  obtain ⟨q, hq, e⟩ := inI_nat h.made.1 (by omega) c.1
  have h1 := nv_of e (by omega)
  rw [h1]
  exact ⟨e, hq⟩
theorem Ok.wait (h : Ok np v) {i a : Nat} (hi : i < np) : Ok np (cWait v i a) := by
  unfold cWait
  split
  · split
    · exact h.rg
    · exact (h.leave hi).fr (by omega)
  · exact h.rg
theorem Ok.kill (h : Ok np v) {i a : Nat} : Ok np (cKill np v i a) := by
  unfold cKill
  split
  · next c =>
    split
    · exact h.rg
    · exact (h.end (h.oth c).2).rg
  · exact h.rg
theorem Ok.m5 (h : Ok np v) {j : Nat} {x : Int32} : Ok np (u2 v 5 j x) := h.set (by omega) (okS_free (by omega))
theorem Ok.acc (h : Ok np v) {i a b : Nat} {op : Int32} : Ok np (cAcc v i op a b) := by
  have h1 : Ok np (cUse v (bl (v (68 + 3 * i + 1) b) 31 / 4) (nv v (68 + 3 * i) 4)) := h.use (by have := bl_lt (v (68 + 3 * i + 1) b) 31; omega)
  unfold cAcc
  dsimp only
  split
  · exact h1.rg
  · split
    · exact h1.m5
    · split
      · exact h1.m5.rg
      · exact h1.rg
theorem Ok.give (h : Ok np v) {j n : Nat} {x : Int32} (hj : j < 8) : Ok np (cGive v j x n) := by
  have h2 : Ok np (u2 (u2 v 0 9 (v 0 9 + 1)) (28 + 5 * j + 1) n 0) := (h.c0 (by omega)).pg (by omega)
  unfold cGive
  dsimp only
  split
  · split
    · exact (h2.pg (by omega)).c0 (by omega)
    · exact (h2.pg (by omega)).c0 (by omega)
  · exact h2
theorem cOld_lt (v : Vs) (n : Nat) : ∀ (r i h : Nat) (o : Option Nat), i + r ≤ 8 → (∀ q, o = some q → q < 8) → ∀ q, (cOld v n r i h o).2 = some q → q < 8 := by
  intro r
  induction r with
  | zero => intro i h o hi ho q hq; exact ho q hq
  | succ r ih =>
    intro i h o hi ho
    cases o with
    | none =>
      unfold cOld
      split
      · exact ih _ _ _ (by omega) (fun q e => by cases e)
      · exact ih _ _ _ (by omega) (fun q e => by cases e; omega)
    | some q0 =>
      have h0 := ho q0 rfl
      unfold cOld
      split
      · exact ih _ _ _ (by omega) (fun q e => by cases e; omega)
      · split
        · exact ih _ _ _ (by omega) (fun q e => by cases e; omega)
        · exact ih _ _ _ (by omega) (fun q e => by cases e; omega)
theorem Ok.room (h : Ok np v) {x : Int32} {n : Nat} : Ok np (cRoom v x n) := by
  unfold cRoom
  have hq := cOld_lt v n 8 0 0 none (by omega) (fun q e => by cases e)
  generalize cOld v n 8 0 0 none = z at hq ⊢
  obtain ⟨a, o⟩ := z
  cases o with
  | none => exact h
  | some q =>
    show Ok np (if nI a = 3 then cGive v q x n else v)
    split
    · exact h.give (hq q rfl)
    · exact h
theorem Ok.gwl {j : Nat} {x : Int32} (hj : j < 8) : ∀ (r i : Nat) (lost : Int32) (v : Vs), Ok np v → Ok np (cGWL j x r i lost v).2 := by
  intro r
  induction r with
  | zero => exact fun i lost v h => h
  | succ r ih =>
    intro i lost v h
    unfold cGWL
    split
    · exact ih _ _ _ h
    · split
      · exact ih _ _ _ h
      · exact ih _ _ _ (h.pg (by omega))
theorem Ok.gw (h : Ok np v) {j n : Nat} {x : Int32} (hj : j < 8) : Ok np (cGW v j x n).2 := ((Ok.gwl hj 3 0 0 v h).pg (by omega)).pg (by omega)
theorem Ok.grl {j : Nat} {x : Int32} (hj : j < 8) : ∀ (r i : Nat) (v : Vs), Ok np v → Ok np (cGRL j x r i v) := by
  intro r
  induction r with
  | zero => exact fun i v h => h
  | succ r ih =>
    intro i v h
    unfold cGRL
    split
    · exact ih _ _ h
    · split
      · exact ih _ _ (h.pg (by omega))
      · exact ih _ _ h
theorem Ok.gre (h : Ok np v) {j n : Nat} {x : Int32} (hj : j < 8) : Ok np (cGRE v j x n) := by
  unfold cGRE
  dsimp only
  split
  · split
    · exact (h.pg (by omega)).pg (by omega)
    · exact h.pg (by omega)
  · split
    · exact h.pg (by omega)
    · exact h
theorem Ok.gr (h : Ok np v) {j n : Nat} {x : Int32} (hj : j < 8) : Ok np (cGR v j x n) := (Ok.grl hj 3 0 v h).gre hj
theorem Ok.grE (h : Ok np v) {j n i : Nat} {x : Int32} (hj : j < 8) (hi : i < np) : Ok np (cGrE v j x n i) := by
  unfold cGrE
  split
  · exact (((h.gw hj).c0 (by omega)).use hj).join hi
  · exact ((h.gr hj).use hj).join hi
theorem Ok.grant (h : Ok np v) {j i : Nat} (hj : j < 8) (hi : i < np) : Ok np (cGrant v j i) := by
  have h2 : Ok np (u2 (u2 v 0 10 (v 0 10 + 1)) 0 7 (u2 v 0 10 (v 0 10 + 1) 0 7 + 1)) := (h.c0 (by omega)).c0 (by omega)
  unfold cGrant
  dsimp only
  split
  · exact (h2.c0 (by omega)).room.grE hj hi
  · exact h2.grE hj hi
end OKG
