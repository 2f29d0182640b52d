/-! WHAT THE REFERENCE'S METHODS DO -/
theorem i_le {x y : Int32} (h : ¬ x < y) : y ≤ x := Int32.le_iff_toInt_le.mpr (Int.not_lt.mp fun c => h (Int32.lt_iff_toInt_lt.mpr c))
def mTick (r : Vs) : Vs := u2 r 0 23 (r 0 23 + 1)
def mIns2 (r : Vs) (x op a b : Int32) : Int32 × Vs := if r 4 (nn x) = 12 then (-2, r) else
  let t := 12 * nn x + nv r 4 (nn x)
  let r1 := u2 r 1 t op
  let r2 := u2 r1 2 t a
  let r3 := u2 r2 3 t b
  let r4 := u2 r3 4 (nn x) (r3 4 (nn x) + 1)
  (r4 4 (nn x), r4)
def mIns (r : Vs) (x op a b : Int32) : Int32 × Vs :=
  if outP x 3 then (-1, r) else if outP op 12 then (-1, r) else if outP a 3 then (-1, r)
  else if op = 0 then (if b < -1000 then (-1, r) else if b ≤ 1000 then mIns2 r x op a b else (-1, r))
  else if op = 5 then (if outP b 11 then (-1, r) else mIns2 r x op a b)
  else (if outP b 3 then (-1, r) else mIns2 r x op a b)
def mRdy (r : Vs) (p : Nat) : Vs :=
  let r1 := u2 r 9 p 1
  let r2 := mTick r1
  let r3 := u2 r2 10 p (r2 0 23)
  let r4 := u2 r3 11 p 0
  u2 r4 14 p 8
def mMk0 (r : Vs) (x y : Int32) : Vs :=
  let p := nv r 0 14
  let r1 := u2 r 0 14 (r 0 14 + 1)
  let r2 := u2 r1 5 p x
  let r3 := u2 r2 8 p y
  let r4 := u2 r3 22 (8 * 0 + p) y
  let r5 := u2 r4 22 (8 * 1 + p) y
  let r6 := u2 r5 22 (8 * 2 + p) y
  mRdy r6 p
def mMake (r : Vs) (x y : Int32) : Int32 × Vs := if r 0 14 = 8 then (-1, r) else (r 0 14, mMk0 r x y)
def mSpw (r : Vs) (x y : Int32) : Int32 × Vs :=
  if outP x 3 then (-1, r) else if outP y 2 then (-1, r) else if 0 ≤ (mMake r x y).1 then mMake r x y else (-2, (mMake r x y).2)
abbrev edP (r : Vs) (x : Int32) : Prop := ¬ npP r x ∧ r 9 (nn x) = 4
def mEndL (x : Int32) : Nat → Nat → Vs → Vs
  | 0, _, r => r
  | k + 1, q, r => mEndL x k (q + 1) (if r 9 q = 3 then (if r 13 q = x then mRdy r q else r) else r)
def mEnd (r : Vs) (x : Int32) (p : Nat) (y : Int32) : Vs := mEndL x (nv r 0 14) 0 (u2 (u2 (u2 r 9 p 4) 12 p y) 14 p 8)
/-- the right that a process has to a word's page -/
def mRt (r : Vs) (p t : Nat) : Int32 := r 19 (8 * nv r 8 p + t / 4)
abbrev fltP (r : Vs) (p : Nat) (op : Int32) (t : Nat) : Prop := (¬ op < 2 ∧ op ≤ 4) ∧ (¬ mRt r p t = 2 ∧ ¬ (mRt r p t = 1 ∧ op = 2))
def mFl0 (r : Vs) (p : Nat) (op y : Int32) : Vs :=
  let r1 := u2 r 0 25 (r 0 25 + 1)
  let r2 := u2 r1 9 p 2
  let r3 := u2 r2 14 p (y / 4)
  let r4 := mTick r3
  let r5 := u2 r4 15 p (r4 0 23)
  let r6 := u2 r5 16 p (y / 4)
  if op = 2 then u2 r6 17 p 0 else u2 r6 17 p 1
def mFault (r : Vs) (p : Nat) (op y : Int32) (t : Nat) : Vs := if fltP r p op t then mFl0 r p op y else r
def mTch0 (r : Vs) (p : Nat) (op : Int32) (a t : Nat) : Vs :=
  if op = 2 then u2 r 6 a (r 18 t) else if op = 3 then u2 r 18 t (r 6 a)
  else if r 18 t = r 6 (4 * p + 3) then (let r1 := u2 r 18 t (r 6 a)
    u2 r1 6 (4 * p + 3) 1) else u2 r 6 (4 * p + 3) 0
def mTch (r : Vs) (p : Nat) (op : Int32) (a t : Nat) : Vs :=
  let r1 := mTch0 r p op a t
  let r2 := mTick r1
  u2 r2 20 (8 * nv r1 8 p + t / 4) (r2 0 23)
section OKN
variable {r : Vs}
theorem OkM.tick (h : OkM r) : OkM (mTick r) := h.fr (by omega)
theorem OkM.rdy (h : OkM r) {p : Nat} : OkM (mRdy r p) := ((((h.fr (by omega)).tick.fr (by omega)).fr (by omega)).fr (by omega))
theorem OkM.pr (h : OkM r) {j : Nat} {x : Int32} (hx : okLt 4 x) : OkM (u2 r 5 j x) := h.set (fun a => absurd a (by decide)) (fun _ => hx) (fun a => absurd a (by decide)) (fun a => absurd a (by decide)) (fun a => absurd a (by decide)) (by decide)
theorem OkM.pl (h : OkM r) {j : Nat} {x : Int32} (hx : okLt 3 x) : OkM (u2 r 8 j x) := h.set (fun a => absurd a (by decide)) (fun a => absurd a (by decide)) (fun a => absurd a (by decide)) (fun _ => hx) (fun a => absurd a (by decide)) (by decide)
theorem OkM.hi (h : OkM r) {j : Nat} {x : Int32} (hx : okLt 3 x) : OkM (u2 r 22 j x) := h.set (fun a => absurd a (by decide)) (fun a => absurd a (by decide)) (fun a => absurd a (by decide)) (fun a => absurd a (by decide)) (fun _ => hx) (by decide)
theorem OkM.ct (h : OkM r) {j : Nat} {x : Int32} (hx : okLt 13 x) : OkM (u2 r 7 j x) := h.set (fun a => absurd a (by decide)) (fun a => absurd a (by decide)) (fun _ => hx) (fun a => absurd a (by decide)) (fun a => absurd a (by decide)) (by decide)
theorem OkM.mk0 (h : OkM r) {x y : Int32} (h8 : ¬ r 0 14 = 8) (hx : okLt 4 x) (hy : okLt 3 y) : OkM (mMk0 r x y) := by
  have hm := h.made
  have h1 : OkM (u2 r 0 14 (r 0 14 + 1)) := by
    refine h.set (fun _ _ => ⟨nv r 0 14 + 1, ?_, ni_add hm.1 rfl⟩) (fun a => absurd a (by decide)) (fun a => absurd a (by decide)) (fun a => absurd a (by decide)) (fun a => absurd a (by decide)) (by decide)
    have : ¬ nv r 0 14 = 8 := fun e => h8 (by rw [hm.1, e]; rfl)
    omega
  exact (((((h1.pr hx).pl hy).hi hy).hi hy).hi hy).rdy
theorem OkM.make (h : OkM r) {x y : Int32} (hx : okLt 4 x) (hy : okLt 3 y) : OkM (mMake r x y).2 := by
  unfold mMake
  split
  · exact h
  · next c => exact h.mk0 c hx hy
theorem OkM.spw (h : OkM r) {x y : Int32} : OkM (mSpw r x y).2 := by
  unfold mSpw
  split
  · exact h
  · next c1 =>
    split
    · exact h
    · next c2 =>
      have q1 := nout_nn (N := 3) rfl (by omega) c1
      have q2 := nout_nn (N := 2) rfl (by omega) c2
      have hm := h.make (x := x) (y := y) ⟨_, q1.2, q1.1⟩ ⟨_, q2.2, q2.1⟩
      split
      · exact hm
      · exact hm
theorem OkM.endL {x : Int32} : ∀ (k q : Nat) (r : Vs), OkM r → OkM (mEndL x k q r) := by
  intro k
  induction k with
  | zero => exact fun q r h => h
  | succ k ih =>
    intro q r h
    refine ih _ _ ?_
    split
    · split
      · exact h.rdy
      · exact h
    · exact h
theorem OkM.end (h : OkM r) {x y : Int32} {p : Nat} : OkM (mEnd r x p y) := OkM.endL _ _ _ (((h.fr (by omega)).fr (by omega)).fr (by omega))
theorem OkM.fl0 (h : OkM r) {p : Nat} {op y : Int32} : OkM (mFl0 r p op y) := by
  have h6 := ((((h.fr (k := 0) (j := 25) (x := r 0 25 + 1) (by omega)).fr (k := 9) (j := p) (x := 2) (by omega)).fr (k := 14) (j := p) (x := y / 4) (by omega)).tick)
  unfold mFl0
  dsimp only
  split
  · exact ((h6.fr (by omega)).fr (by omega)).fr (by omega)
  · exact ((h6.fr (by omega)).fr (by omega)).fr (by omega)
theorem OkM.fault (h : OkM r) {p t : Nat} {op y : Int32} : OkM (mFault r p op y t) := by
  unfold mFault
  split
  · exact h.fl0
  · exact h
theorem OkM.tch0 (h : OkM r) {p a t : Nat} {op : Int32} : OkM (mTch0 r p op a t) := by
  unfold mTch0
  dsimp only
  split
  · exact h.fr (by omega)
  · split
    · exact h.fr (by omega)
    · split
      · exact (h.fr (by omega)).fr (by omega)
      · exact h.fr (by omega)
theorem OkM.tch (h : OkM r) {p a t : Nat} {op : Int32} : OkM (mTch r p op a t) := h.tch0.tick.fr (by omega)
theorem mRdy_m {p : Nat} : mRdy r p 0 14 = r 0 14 := by
  unfold mRdy mTick
  rw [u2_a (by omega), u2_a (by omega), u2_a (by omega), u2_a (by omega), u2_a (by omega)]
theorem mRdy_p {p : Nat} : mRdy r p 8 = r 8 := by
  unfold mRdy mTick
  rw [u2_oth (by omega), u2_oth (by omega), u2_oth (by omega), u2_oth (by omega), u2_oth (by omega)]
end OKN
