/-! the reference: standing, reads, migrate, find, held, firstAsking -/
def mCnt (r : Vs) (x sp : Int32) : Nat → Nat → Nat → Nat
  | 0, _, n => n
  | k + 1, q, n => mCnt r x sp k (q + 1) (if r 9 q = 1 then (if r 8 q = x then (if sp ≤ r 10 q then n else n + 1) else n) else n)
def mStL (r : Vs) (x y : Int32) : Nat → Nat → Int32
  | 0, _ => 8
  | k + 1, q => if r 9 q = 1 then (if r 8 q = x then (if nI (mCnt r x (r 10 q) (nv r 0 14) 0 0) = y then nI q else mStL r x y k (q + 1)) else mStL r x y k (q + 1)) else mStL r x y k (q + 1)
def mSt (r : Vs) (x y : Int32) : Int32 := mStL r x y (nv r 0 14) 0
theorem mStL_or (r : Vs) (x y : Int32) : ∀ (k q : Nat), mStL r x y k q = 8 ∨ ∃ n, n < q + k ∧ mStL r x y k q = nI n := by
  intro k
  induction k with
  | zero => exact fun q => Or.inl rfl
  | succ k ih =>
    intro q
    have hn : mStL r x y k (q + 1) = 8 ∨ ∃ n, n < q + (k + 1) ∧ mStL r x y k (q + 1) = nI n := by
      rcases ih (q + 1) with h | ⟨n, h1, h2⟩
      · exact Or.inl h
      · exact Or.inr ⟨n, by omega, h2⟩
    unfold mStL
    split
    · split
      · split
        · exact Or.inr ⟨q, by omega, rfl⟩
        · exact hn
      · exact hn
    · exact hn
theorem mSt_nn {r : Vs} (hO : OkM r) {x y : Int32} : mSt r x y = nI (nn (mSt r x y)) ∧ nn (mSt r x y) < 9 ∧ (nn (mSt r x y) = 8 ∨ nn (mSt r x y) < nv r 0 14) := by
  have hm := hO.made.2
  rcases mStL_or r x y (nv r 0 14) 0 with h | ⟨n, h1, h2⟩
  · have e : mSt r x y = nI 8 := h
    have h3 : nn (mSt r x y) = 8 := by rw [nn, e, nI_clamp (by omega)]
    rw [h3]
    exact ⟨e, by omega, Or.inl rfl⟩
  · have e : mSt r x y = nI n := h2
    have h3 : nn (mSt r x y) = n := by rw [nn, e, nI_clamp (by omega)]
    rw [h3]
    exact ⟨e, by omega, Or.inr (by omega)⟩
def mReg (r : Vs) (x y : Int32) : Int64 := if npP r x then NONEv else if outP y 3 then NONEv else (r 6 (4 * nn x + nn y)).toInt64
def mInfo (r : Vs) (x y : Int32) : Int64 := if npP r x then NONEv else
  if y = 0 then (r 9 (nn x)).toInt64 else if y = 1 then (r 8 (nn x)).toInt64 else if y = 2 then (r 7 (nn x)).toInt64 else if y = 3 then (r 11 (nn x)).toInt64
  else if y = 4 then (r 12 (nn x)).toInt64 else if y = 5 then (r 14 (nn x)).toInt64 else NONEv
def mLine (r : Vs) (x y : Int32) : Int32 := if outP x 2 then -1 else if 0 ≤ y then mSt r x y else -1
def mWord (r : Vs) (x : Int32) : Int64 := if outP x 31 then NONEv else (r 18 (nn x)).toInt64
def mCopy (r : Vs) (x y : Int32) : Int64 := if outP x 2 then NONEv else if outP y 31 then NONEv else if r 19 (8 * nn x + nn y / 4) = 0 then NONEv else (r 18 (nn y)).toInt64
def mRight (r : Vs) (x y : Int32) : Int32 := if outP x 2 then -1 else if outP y 7 then -1 else r 19 (8 * nn x + nn y)
def mOwner (r : Vs) (x : Int32) : Int32 := if outP x 7 then -1 else r 21 (nn x)
def mMig2 (r : Vs) (w x y : Int32) : Vs :=
  let r2 := u2 r 22 (8 * nn w + nn x) y
  u2 r2 22 (8 * nn y + nn x) y
def mMig (r : Vs) (x y : Int32) : Int32 × Vs :=
  if npP r x then (-1, r) else if r 9 (nn x) = 4 then (-1, r) else if outP y 2 then (-1, r) else if r 8 (nn x) = y then (-1, r) else
    let w := r 8 (nn x)
    let n := nv r 8 (nn x)
    let r1 := u2 r 8 (nn x) y
    if r1 9 (nn x) = 1 then
      (let r2 := u2 (mRdy r1 (nn x)) 22 (8 * n + nn x) y
      (w, u2 r2 22 (8 * nn y + nn x) y))
    else
      (let r2 := u2 r1 22 (8 * n + nn x) y
      (w, u2 r2 22 (8 * nn y + nn x) y))
def mFndL (q : Nat) : Nat → Nat → Nat → Vs → Int32 × Vs
  | 0, f, _, r => (nI f, r)
  | k + 1, f, t, r => if nI t = r 8 q then (nI f, r) else mFndL q k (f + 1) (nv r 22 (8 * t + q)) (u2 r 22 (8 * t + q) (r 8 q))
def mFnd (r : Vs) (x y : Int32) : Int32 × Vs := if outP x 2 then (-1, r) else if npP r y then (-1, r) else mFndL (nn y) 9 0 (nn x) r
def mHeldL (r : Vs) (n : Nat) : Nat → Nat → Nat → Nat
  | 0, _, c => c
  | k + 1, j, c => if r 19 (8 * n + j) = 0 then mHeldL r n k (j + 1) c else mHeldL r n k (j + 1) (c + 1)
def mHeld (r : Vs) (n : Nat) : Nat := mHeldL r n 8 0 0
def mAskL (r : Vs) (x : Int32) : Nat → Nat → Nat → Nat
  | 0, _, b => b
  | k + 1, q, b => if r 15 q = 0 then mAskL r x k (q + 1) b else if r 16 q = x then (if nI b = 8 then mAskL r x k (q + 1) q else if r 15 b ≤ r 15 q then mAskL r x k (q + 1) b else mAskL r x k (q + 1) q) else mAskL r x k (q + 1) b
def mAsk (r : Vs) (x : Int32) : Nat := mAskL r x (nv r 0 14) 0 8
section OKQ
variable {r : Vs}
theorem OkM.mig (h : OkM r) {x y : Int32} : OkM (mMig r x y).2 := by
  unfold mMig
  split
  · exact h
  · split
    · exact h
    · split
      · exact h
      · next c =>
        have q2 := nout_nn (N := 2) rfl (by omega) c
        have hy : okLt 3 y := ⟨_, q2.2, q2.1⟩
        split
        · exact h
        · dsimp only
          split
          · exact ((h.pl hy).rdy.hi hy).hi hy
          · exact ((h.pl hy).hi hy).hi hy
theorem OkM.fndL {q : Nat} : ∀ (k f t : Nat) (r : Vs), OkM r → OkM (mFndL q k f t r).2 := by
  intro k
  induction k with
  | zero => exact fun f t r h => h
  | succ k ih =>
    intro f t r h
    unfold mFndL
    split
    · exact h
    · exact ih _ _ _ (h.hi ⟨_, (h.c8 q).2, (h.c8 q).1⟩)
theorem OkM.fnd (h : OkM r) {x y : Int32} : OkM (mFnd r x y).2 := by
  unfold mFnd
  split
  · exact h
  · split
    · exact h
    · exact OkM.fndL _ _ _ _ h
end OKQ
