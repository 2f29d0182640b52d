/-! the reference: count, giveUp, share, serve, perform, step -/
def mCtL (r : Vs) : Nat → Nat → Nat → Nat → Nat × Nat
  | 0, _, a, b => (a, b)
  | k + 1, q, a, b => mCtL r k (q + 1) (if r 15 q = 0 then a else a + 1) (if r 9 q = 1 then b + 1 else b)
def mCount (r : Vs) (y : Int32) : Int32 :=
  if y = 0 then r 0 14 else if y = 1 then r 0 24 else if y = 2 then r 0 25 else if y = 3 then r 0 26 else if y = 4 then nI (mCtL r (nv r 0 14) 0 0 0).1 else if y = 5 then nI (mCtL r (nv r 0 14) 0 0 0).2 else if y = 6 then r 0 27 else -1
def mOldL (r : Vs) (n : Nat) : Nat → Nat → Nat → Nat
  | 0, _, o => o
  | k + 1, j, o => if r 19 (8 * n + j) = 0 then mOldL r n k (j + 1) o else if nI o = 8 then mOldL r n k (j + 1) j else if r 20 (8 * n + o) ≤ r 20 (8 * n + j) then mOldL r n k (j + 1) o else mOldL r n k (j + 1) j
theorem mOldL_le (r : Vs) (n : Nat) : ∀ (k j o : Nat), j + k ≤ 8 → o ≤ 8 → mOldL r n k j o ≤ 8 := by
  intro k
  induction k with
  | zero => exact fun j o _ h => h
  | succ k ih =>
    intro j o hj ho
    unfold mOldL
    split
    · exact ih _ _ (by omega) ho
    · split
      · exact ih _ _ (by omega) (by omega)
      · split
        · exact ih _ _ (by omega) ho
        · exact ih _ _ (by omega) (by omega)
/-- the lowest node that has a right to the page o becomes its owner -/
def mLow (r : Vs) (o : Nat) : Vs :=
  let r4 := if r 19 (8 * 2 + o) = 0 then r else u2 r 21 o 2
  let r5 := if r4 19 (8 * 1 + o) = 0 then r4 else u2 r4 21 o 1
  if r5 19 (8 * 0 + o) = 0 then r5 else u2 r5 21 o 0
def mGivE (r : Vs) (o : Nat) : Vs := if r 21 o = 3 then u2 r 0 24 (r 0 24 + 1) else r
def mGiv (r : Vs) (x : Int32) (n : Nat) : Vs :=
  let o := mOldL r n 8 0 8
  if nI o = 8 then r else
    let r1 := u2 r 19 (8 * n + o) 0
    let r2 := u2 r1 0 26 (r1 0 26 + 1)
    if r2 21 o = x then mGivE (mLow (u2 r2 21 o 3) o) o else r2
def mShL (x y : Int32) (g : Nat) : Nat → Nat → Vs → Vs
  | 0, _, r => r
  | k + 1, m, r => if nI m = x then mShL x y g k (m + 1) r else if r 19 (8 * m + g) = 0 then mShL x y g k (m + 1) r else if y = 0 then mShL x y g k (m + 1) (u2 r 19 (8 * m + g) 1) else mShL x y g k (m + 1) (u2 (u2 r 0 24 (r 0 24 + 1)) 19 (8 * m + g) 0)
def mSh2 (r : Vs) (x : Int32) (g : Nat) (y : Int32) : Vs := if y = 0 then (if r 21 g = 3 then u2 r 21 g x else r) else u2 r 21 g x
def mSh1 (r : Vs) (x : Int32) (n g : Nat) (y : Int32) : Vs := if y = 0 then (if r 19 (8 * n + g) = 0 then mSh2 (u2 r 19 (8 * n + g) 1) x g y else mSh2 r x g y) else mSh2 (u2 r 19 (8 * n + g) 2) x g y
def mShare (r : Vs) (x : Int32) (n g : Nat) (y : Int32) : Vs := mSh1 (mShL x y g 3 0 r) x n g y
section OKS
variable {r : Vs}
theorem OkM.low (h : OkM r) {o : Nat} : OkM (mLow r o) := by
  have key : ∀ (c : Vs) (q : Nat) (x : Int32), OkM c → OkM (if c 19 q = 0 then c else u2 c 21 o x) := by
    intro c q x hc
    split
    · exact hc
    · exact hc.fr (by omega)
  exact key _ _ _ (key _ _ _ (key _ _ _ h))
theorem OkM.givE (h : OkM r) {o : Nat} : OkM (mGivE r o) := by
  unfold mGivE
  split
  · exact h.fr (by omega)
  · exact h
theorem OkM.giv (h : OkM r) {x : Int32} {n : Nat} : OkM (mGiv r x n) := by
  unfold mGiv
  dsimp only
  split
  · exact h
  · split
    · exact (((h.fr (by omega)).fr (by omega)).fr (by omega)).low.givE
    · exact (h.fr (by omega)).fr (by omega)
theorem OkM.shL {x y : Int32} {g : Nat} : ∀ (k m : Nat) (r : Vs), OkM r → OkM (mShL x y g k m r) := by
  intro k
  induction k with
  | zero => exact fun m r h => h
  | succ k ih =>
    intro m r h
    unfold mShL
    split
    · exact ih _ _ h
    · split
      · exact ih _ _ h
      · split
        · exact ih _ _ (h.fr (by omega))
        · exact ih _ _ ((h.fr (by omega)).fr (by omega))
theorem OkM.sh2 (h : OkM r) {x y : Int32} {g : Nat} : OkM (mSh2 r x g y) := by
  unfold mSh2
  split
  · split
    · exact h.fr (by omega)
    · exact h
  · exact h.fr (by omega)
theorem OkM.sh1 (h : OkM r) {x y : Int32} {n g : Nat} : OkM (mSh1 r x n g y) := by
  unfold mSh1
  split
  · split
    · exact (h.fr (by omega)).sh2
    · exact h.sh2
  · exact (h.fr (by omega)).sh2
theorem OkM.share (h : OkM r) {x y : Int32} {n g : Nat} : OkM (mShare r x n g y) := (OkM.shL 3 0 r h).sh1
end OKS
/-- what is asked and not yet served or dropped -/
def mRem (r : Vs) : Nat → Nat
  | 0 => 0
  | k + 1 => mRem r k + (if r 15 k = 0 then 0 else 1)
theorem mAskL_ok (r : Vs) (x : Int32) : ∀ (k q b : Nat), (b = 8 ∨ (b < q ∧ ¬ r 15 b = 0)) → q + k ≤ 8 → mAskL r x k q b = 8 ∨ (mAskL r x k q b < q + k ∧ ¬ r 15 (mAskL r x k q b) = 0) := by
  intro k
  induction k with
  | zero => intro q b h _; exact h.imp id (fun h => ⟨by have := h.1; show b < q + 0; omega, h.2⟩)
  | succ k ih =>
    intro q b h hq
    have e : q + (k + 1) = q + 1 + k := by omega
    rw [e]
    have hb : b = 8 ∨ (b < q + 1 ∧ ¬ r 15 b = 0) := h.imp id (fun h => ⟨by omega, h.2⟩)
    unfold mAskL
    split
    · exact ih _ _ hb (by omega)
    · next c =>
      have hq2 : q = 8 ∨ (q < q + 1 ∧ ¬ r 15 q = 0) := Or.inr ⟨by omega, c⟩
      split
      · split
        · exact ih _ _ hq2 (by omega)
        · split
          · exact ih _ _ hb (by omega)
          · exact ih _ _ hq2 (by omega)
      · exact ih _ _ hb (by omega)
theorem mAsk_ok {r : Vs} (hO : OkM r) (x : Int32) : mAsk r x = 8 ∨ (mAsk r x < nv r 0 14 ∧ ¬ r 15 (mAsk r x) = 0) := by
  have h := mAskL_ok r x (nv r 0 14) 0 8 (Or.inl rfl) (by have := hO.le; omega)
  rw [Nat.zero_add] at h
  exact h
theorem mRem_drop {r : Vs} {q : Nat} (hq : ¬ r 15 q = 0) : ∀ k, q < k → mRem (u2 r 15 q 0) k + 1 = mRem r k := by
  intro k
  induction k with
  | zero => intro h; omega
  | succ k ih =>
    intro h
    unfold mRem
    by_cases e : q = k
    · subst e
      have same : ∀ j, j ≤ q → mRem (u2 r 15 q 0) j = mRem r j := by
        intro j
        induction j with
        | zero => intro _; rfl
        | succ j ihj =>
          intro hj
          unfold mRem
          rw [ihj (by omega), u2_a (by omega)]
      rw [same q (Nat.le_refl _), u2_s, if_pos rfl, if_neg hq]
    · have := ih (by omega)
      rw [u2_a (by omega)]
      omega
/-- requests of processes that have ended go -/
def mDrop (x : Int32) : Nat → Vs → Vs
  | 0, r => r
  | k + 1, r => if nI (mAsk r x) = 8 then r else if r 9 (mAsk r x) = 4 then mDrop x k (u2 r 15 (mAsk r x) 0) else r
def mSrv2 (r : Vs) (x : Int32) (q n : Nat) (y : Int32) : Vs :=
  let r6 := mShare r y n (nn x) (r 17 q)
  let r7 := mTick r6
  let r8 := u2 r7 20 (8 * n + nn x) (r7 0 23)
  let r9 := u2 r8 0 27 (r8 0 27 + 1)
  mRdy r9 q
def mSrv1 (r : Vs) (x : Int32) : Int32 × Vs :=
  let q := mAsk r x
  if nI q = 8 then (-3, r) else
    let r1 := u2 r 15 q 0
    let y := r1 8 q
    let n := nv r1 8 q
    if r1 19 (8 * n + nn x) = 0 then
      (let r2 := u2 r1 0 24 (r1 0 24 + 2)
      if nI (mHeld r2 n) = 3 then (nI q, mSrv2 (mGiv r2 y n) x q n y) else (nI q, mSrv2 r2 x q n y))
    else
      (let r2 := u2 r1 0 24 (r1 0 24 + 1)
      (nI q, mSrv2 r2 x q n y))
def mSrv (r : Vs) (x : Int32) : Int32 × Vs := if outP x 7 then (-1, r) else mSrv1 (mDrop x (mRem r 8) r) x
section OKT
variable {r : Vs}
theorem OkM.drop {x : Int32} : ∀ (k : Nat) (r : Vs), OkM r → OkM (mDrop x k r) := by
  intro k
  induction k with
  | zero => exact fun r h => h
  | succ k ih =>
    intro r h
    unfold mDrop
    split
    · exact h
    · split
      · exact ih _ (h.fr (by omega))
      · exact h
theorem OkM.srv2 (h : OkM r) {x y : Int32} {q n : Nat} : OkM (mSrv2 r x q n y) := ((h.share.tick.fr (by omega)).fr (by omega)).rdy
theorem OkM.srv (h : OkM r) {x : Int32} : OkM (mSrv r x).2 := by
  unfold mSrv
  split
  · exact h
  · have h := OkM.drop (x := x) (mRem r 8) r h
    generalize mDrop x (mRem r 8) r = c at h
    unfold mSrv1
    dsimp only
    split
    · exact h
    · split
      · split
        · exact ((h.fr (by omega)).fr (by omega)).giv.srv2
        · exact ((h.fr (by omega)).fr (by omega)).srv2
      · exact ((h.fr (by omega)).fr (by omega)).srv2
end OKT
