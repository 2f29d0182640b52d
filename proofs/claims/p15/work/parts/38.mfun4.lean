/-! the reference: perform, step -/
abbrev wtP (r : Vs) (x op : Int32) (a : Nat) : Prop := op = 7 ∧ ¬ npP r (r 6 a) ∧ ¬ r 6 a = x ∧ ¬ edP r (r 6 a)
def mPrf (r : Vs) (x : Int32) (q : Nat) (op : Int32) (a b : Nat) (z : Int32) : Vs :=
  if op = 0 then u2 r 6 a z
  else if op = 1 then u2 r 6 a (r 6 a + r 6 b)
  else if op = 2 then mTch r q op a (bl (r 6 b) 31)
  else if op = 3 then mTch r q op a (bl (r 6 b) 31)
  else if op = 4 then mTch r q op a (bl (r 6 b) 31)
  else if op = 6 then u2 (mMake r z (r 8 q)).2 6 a (mMake r z (r 8 q)).1
  else if op = 7 then (if npP r (r 6 a) then u2 r 6 a (-1) else if r 6 a = x then u2 r 6 a (-1) else if edP r (r 6 a) then u2 r 6 a (r 12 (nn (r 6 a))) else u2 (u2 r 9 q 3) 13 q (r 6 a))
  else if op = 8 then (if npP r (r 6 a) then u2 r 6 a (-1) else if r 6 a = x then u2 r 6 a (-1) else if edP r (r 6 a) then u2 r 6 a (-1) else mEnd (u2 r 6 a 0) (r 6 a) (nn (r 6 a)) (-9))
  else if op = 9 then mEnd r x q (r 6 a)
  else if op = 10 then u2 r 6 a x
  else if op = 11 then u2 r 6 a (r 8 q)
  else r
section OKU
variable {r : Vs}
theorem OkM.prf (h : OkM r) {x op z : Int32} {q a b : Nat} (h6 : op = 6 → okLt 4 z) : OkM (mPrf r x q op a b z) := by
  have f6 : ∀ y, OkM (u2 r 6 a y) := fun y => h.fr (by omega)
  unfold mPrf
  by_cases e0 : op = 0
  · rw [if_pos e0]; exact f6 _
  rw [if_neg e0]
  by_cases e1 : op = 1
  · rw [if_pos e1]; exact f6 _
  rw [if_neg e1]
  by_cases e2 : op = 2
  · rw [if_pos e2]; exact h.tch
  rw [if_neg e2]
  by_cases e3 : op = 3
  · rw [if_pos e3]; exact h.tch
  rw [if_neg e3]
  by_cases e4 : op = 4
  · rw [if_pos e4]; exact h.tch
  rw [if_neg e4]
  by_cases e6 : op = 6
  · rw [if_pos e6]; exact (h.make (h6 e6) ⟨_, (h.c8 q).2, (h.c8 q).1⟩).fr (by omega)
  rw [if_neg e6]
  by_cases e7 : op = 7
  · rw [if_pos e7]
    split
    · exact f6 _
    · split
      · exact f6 _
      · split
        · exact f6 _
        · exact (h.fr (by omega)).fr (by omega)
  rw [if_neg e7]
  by_cases e8 : op = 8
  · rw [if_pos e8]
    split
    · exact f6 _
    · split
      · exact f6 _
      · split
        · exact f6 _
        · exact (f6 _).end
  rw [if_neg e8]
  by_cases e9 : op = 9
  · rw [if_pos e9]; exact h.end
  rw [if_neg e9]
  by_cases e10 : op = 10
  · rw [if_pos e10]; exact f6 _
  rw [if_neg e10]
  by_cases e11 : op = 11
  · rw [if_pos e11]; exact f6 _
  rw [if_neg e11]
  exact h
end OKU
/-- the cells that running leaves: programs and counters -/
def stay (k : Nat) : Prop := 1 ≤ k ∧ k ≤ 4 ∨ k = 7
theorem mTick_st {r : Vs} {k : Nat} (hk : stay k) : mTick r k = r k := by unfold mTick; unfold stay at hk; rw [u2_oth (by omega)]
theorem mRdy_st {r : Vs} {k p : Nat} (hk : stay k) : mRdy r p k = r k := by
  have h2 := hk
  unfold stay at h2
  unfold mRdy
  rw [u2_oth (by omega), u2_oth (by omega), u2_oth (by omega), mTick_st hk, u2_oth (by omega)]
theorem mEndL_st {x : Int32} {k : Nat} (hk : stay k) : ∀ (n q : Nat) (r : Vs), mEndL x n q r k = r k := by
  intro n
  induction n with
  | zero => intro q r; rfl
  | succ n ih =>
    intro q r
    unfold mEndL
    rw [ih]
    split
    · split
      · exact mRdy_st hk
      · rfl
    · rfl
theorem mEnd_st {r : Vs} {x y : Int32} {p k : Nat} (hk : stay k) : mEnd r x p y k = r k := by
  have h2 := hk
  unfold stay at h2
  unfold mEnd
  rw [mEndL_st hk, u2_oth (by omega), u2_oth (by omega), u2_oth (by omega)]
theorem mTch_st {r : Vs} {p a t k : Nat} {op : Int32} (hk : stay k) : mTch r p op a t k = r k := by
  have h2 := hk
  unfold stay at h2
  unfold mTch
  rw [u2_oth (by omega), mTick_st hk]
  unfold mTch0
  dsimp only
  split
  · rw [u2_oth (by omega)]
  · split
    · rw [u2_oth (by omega)]
    · split
      · rw [u2_oth (by omega), u2_oth (by omega)]
      · rw [u2_oth (by omega)]
theorem mMake_st {r : Vs} {x y : Int32} {k : Nat} (hk : stay k) : (mMake r x y).2 k = r k := by
  have h2 := hk
  unfold stay at h2
  unfold mMake
  split
  · rfl
  · show mMk0 r x y k = r k
    unfold mMk0
    rw [mRdy_st hk, u2_oth (by omega), u2_oth (by omega), u2_oth (by omega), u2_oth (by omega), u2_oth (by omega), u2_oth (by omega)]
theorem mPrf_st {r : Vs} {x op z : Int32} {q a b k : Nat} (hk : stay k) : mPrf r x q op a b z k = r k := by
  have h2 := hk
  unfold stay at h2
  have f6 : ∀ y, u2 r 6 a y k = r k := fun y => u2_oth (by omega)
  unfold mPrf
  by_cases e0 : op = 0
  · rw [if_pos e0]; exact f6 _
  rw [if_neg e0]
  by_cases e1 : op = 1
  · rw [if_pos e1]; exact f6 _
  rw [if_neg e1]
  by_cases e2 : op = 2
  · rw [if_pos e2]; exact mTch_st hk
  rw [if_neg e2]
  by_cases e3 : op = 3
  · rw [if_pos e3]; exact mTch_st hk
  rw [if_neg e3]
  by_cases e4 : op = 4
  · rw [if_pos e4]; exact mTch_st hk
  rw [if_neg e4]
  by_cases e6 : op = 6
  · rw [if_pos e6, u2_oth (by omega)]; exact mMake_st hk
  rw [if_neg e6]
  by_cases e7 : op = 7
  · rw [if_pos e7]
    split
    · exact f6 _
    · split
      · exact f6 _
      · split
        · exact f6 _
        · rw [u2_oth (by omega), u2_oth (by omega)]
  rw [if_neg e7]
  by_cases e8 : op = 8
  · rw [if_pos e8]
    split
    · exact f6 _
    · split
      · exact f6 _
      · split
        · exact f6 _
        · rw [mEnd_st hk]; exact f6 _
  rw [if_neg e8]
  by_cases e9 : op = 9
  · rw [if_pos e9]; exact mEnd_st hk
  rw [if_neg e9]
  by_cases e10 : op = 10
  · rw [if_pos e10]; exact f6 _
  rw [if_neg e10]
  by_cases e11 : op = 11
  · rw [if_pos e11]; exact f6 _
  rw [if_neg e11]
/-- behind an instruction that was done: the counter, then the slice -/
def mSl (r : Vs) (s : Int32) (q : Nat) (op : Int32) : Int32 × Vs :=
  if r 9 q = 4 then (30 + s, r) else
    let r1 := u2 r 11 q (r 11 q + 1)
    if op = 12 then (s, mRdy r1 q) else if r1 11 q = 3 then (s, mRdy r1 q) else (s, r1)
def mAft (r : Vs) (s : Int32) (q : Nat) (op : Int32) (a b t : Nat) (j : Int32) : Int32 × Vs :=
  if ¬ wtP r s op a then
    (let r1 := mPrf r s q op a b (r 3 t)
    if j = 0 then mSl (u2 r1 7 q (r1 7 q + 1)) s q op else mSl (u2 r1 7 q (r1 3 t)) s q op)
  else (20 + s, mPrf r s q op a b (r 3 t))
def mRun (r : Vs) (s : Int32) (q : Nat) : Int32 × Vs :=
  if r 7 q < r 4 (nv r 5 q) then
    let t := 12 * nv r 5 q + nv r 7 q
    let a := 4 * q + nv r 2 t
    let b := 4 * q + bl (r 3 t) 3
    if fltP r q (r 1 t) (bl (r 6 b) 31) then (10 + s, mFault r q (r 1 t) (r 6 b &&& 31) (bl (r 6 b) 31))
    else if r 1 t = 5 then (if r 6 a = 0 then mAft r s q (r 1 t) a b t 0 else mAft r s q (r 1 t) a b t 1) else mAft r s q (r 1 t) a b t 0
  else (30 + s, mEnd r s q 0)
def mStp (r : Vs) (x : Int32) : Int32 × Vs := if outP x 2 then (-1, r) else if mSt r x 0 = 8 then (-3, r) else mRun r (mSt r x 0) (nn (mSt r x 0))
section OKW
variable {r : Vs}
theorem OkM.sl (h : OkM r) {s op : Int32} {q : Nat} : OkM (mSl r s q op).2 := by
  unfold mSl
  dsimp only
  split
  · exact h
  · split
    · exact (h.fr (by omega)).rdy
    · split
      · exact (h.fr (by omega)).rdy
      · exact h.fr (by omega)
/-- an instruction that is there -/
theorem OkM.rel (h : OkM r) {q : Nat} (c : r 7 q < r 4 (nv r 5 q)) : nv r 7 q < 12 ∧ okR r (nv r 5 q) (nv r 7 q) := by
  have h5 := (h.c5 q).2
  have hn := ni_lt (h.c7 q).1 (h.c4 (nv r 5 q)).1 (by have := (h.c7 q).2; omega) (by have := (h.c4 (nv r 5 q)).2; omega) c
  exact ⟨by have := (h.c4 (nv r 5 q)).2; omega, h.2.2.2.2.2.2.2 _ h5 _ hn⟩
theorem OkM.aft (h : OkM r) {s j : Int32} {q a b : Nat} (c : r 7 q < r 4 (nv r 5 q)) (hj : r 1 (12 * nv r 5 q + nv r 7 q) ≠ 5 → j = 0) : OkM (mAft r s q (r 1 (12 * nv r 5 q + nv r 7 q)) a b (12 * nv r 5 q + nv r 7 q) j).2 := by
  obtain ⟨h12, hr⟩ := h.rel c
  have hp := h.prf (x := s) (q := q) (a := a) (b := b) (fun e => hr.1 e)
  unfold mAft
  dsimp only
  split
  · split
    · refine OkM.sl (hp.ct ?_)
      rw [mPrf_st (Or.inr rfl)]
      exact okLt_of (n := nv r 7 q + 1) (ni_add (h.c7 q).1 rfl) (by omega)
    · next cj =>
      refine OkM.sl (hp.ct ?_)
      rw [mPrf_st (Or.inl (by omega))]
      have e5 : r 1 (12 * nv r 5 q + nv r 7 q) = 5 := Classical.byContradiction fun e => cj (hj e)
      obtain ⟨n, q1, q2⟩ := hr.2 e5
      exact ⟨n, by omega, q2⟩
  · exact hp
theorem OkM.run (h : OkM r) {s : Int32} {q : Nat} : OkM (mRun r s q).2 := by
  unfold mRun
  dsimp only
  split
  · next c =>
    split
    · exact h.fault
    · split
      · next e5 =>
        split
        · exact h.aft c (fun _ => rfl)
        · exact h.aft c (fun e => absurd e5 e)
      · exact h.aft c (fun _ => rfl)
  · exact h.end
theorem OkM.stp (h : OkM r) {x : Int32} : OkM (mStp r x).2 := by
  unfold mStp
  split
  · exact h
  · split
    · exact h
    · exact h.run
theorem OkM.ins2 (h : OkM r) {x op a b : Int32} (hx : nn x < 4) (ha : okLt 4 a) (hb : (op = 6 → okLt 4 b) ∧ (op = 5 → okLt 12 b)) : OkM (mIns2 r x op a b).2 := by
  unfold mIns2
  split
  · exact h
  · next c =>
    obtain ⟨h0, h2, h4, h5, h7, h8, h22, hR⟩ := id h
    have hs := h.c4 (nn x)
    have hn : nv r 4 (nn x) < 12 := by
      have : ¬ nv r 4 (nn x) = 12 := fun e => c (by rw [hs.1, e]; rfl)
      omega
    dsimp only
    generalize ht : 12 * nn x + nv r 4 (nn x) = t
    have hv : u2 (u2 (u2 r 1 t op) 2 t a) 3 t b 4 (nn x) + 1 = nI (nv r 4 (nn x) + 1) := by
      rw [u2_a (by omega), u2_a (by omega), u2_a (by omega)]; exact ni_add hs.1 rfl
    have row : ∀ c, c ≠ 1 → c ≠ 2 → c ≠ 3 → c ≠ 4 → u2 (u2 (u2 (u2 r 1 t op) 2 t a) 3 t b) 4 (nn x) (u2 (u2 (u2 r 1 t op) 2 t a) 3 t b 4 (nn x) + 1) c = r c := fun c a1 a2 a3 a4 => by
      rw [u2_oth a4, u2_oth a3, u2_oth a2, u2_oth a1]
    refine ⟨?_, fun j => ?_, fun j => ?_, ?_, ?_, ?_, ?_, fun i hi s hs2 => ?_⟩
    · rw [row 0 (by decide) (by decide) (by decide) (by decide)]; exact h0
    · rw [u2_a (by omega), u2_a (by omega)]
      by_cases e : j = t
      · subst e; rw [u2_s]; exact ha
      · rw [u2_n e, u2_a (by omega)]; exact h2 j
    · by_cases e : j = nn x
      · subst e; rw [u2_s, hv]; exact ⟨_, by omega, rfl⟩
      · rw [u2_n e, u2_a (by omega), u2_a (by omega), u2_a (by omega)]; exact h4 j
    · rw [row 5 (by decide) (by decide) (by decide) (by decide)]; exact h5
    · rw [row 7 (by decide) (by decide) (by decide) (by decide)]; exact h7
    · rw [row 8 (by decide) (by decide) (by decide) (by decide)]; exact h8
    · rw [row 22 (by decide) (by decide) (by decide) (by decide)]; exact h22
    · have e1 : ∀ w, u2 (u2 (u2 (u2 r 1 t op) 2 t a) 3 t b) 4 (nn x) (u2 (u2 (u2 r 1 t op) 2 t a) 3 t b 4 (nn x) + 1) 1 w = u2 r 1 t op 1 w := fun w => by rw [u2_a (by omega), u2_a (by omega), u2_a (by omega)]
      have e3 : ∀ w, u2 (u2 (u2 (u2 r 1 t op) 2 t a) 3 t b) 4 (nn x) (u2 (u2 (u2 r 1 t op) 2 t a) 3 t b 4 (nn x) + 1) 3 w = if w = t then b else r 3 w := fun w => by
        rw [u2_a (by omega)]
        by_cases e : w = t
        · subst e; rw [u2_s, if_pos rfl]
        · rw [u2_n e, u2_a (by omega), u2_a (by omega), if_neg e]
      unfold okR
      rw [e1, e3]
      by_cases e : 12 * i + s = t
      · rw [if_pos e, e, u2_s]; exact hb
      · rw [if_neg e, u2_n e]
        have hs3 : s < nv r 4 i := by
          by_cases ei : i = nn x
          · subst ei
            have : nv (u2 (u2 (u2 (u2 r 1 t op) 2 t a) 3 t b) 4 (nn x) (u2 (u2 (u2 r 1 t op) 2 t a) 3 t b 4 (nn x) + 1)) 4 (nn x) = nv r 4 (nn x) + 1 := nv_of (by rw [u2_s]; exact hv) (by omega)
            rw [this] at hs2
            omega
          · have : nv (u2 (u2 (u2 (u2 r 1 t op) 2 t a) 3 t b) 4 (nn x) (u2 (u2 (u2 r 1 t op) 2 t a) 3 t b 4 (nn x) + 1)) 4 i = nv r 4 i := by
              unfold nv; rw [u2_n ei, u2_a (by omega), u2_a (by omega), u2_a (by omega)]
            rw [this] at hs2
            exact hs2
        exact hR i hi s hs3
theorem OkM.ins (h : OkM r) {x op a b : Int32} : OkM (mIns r x op a b).2 := by
  unfold mIns
  split
  · exact h
  · next c1 =>
    split
    · exact h
    · split
      · exact h
      · next c3 =>
        have q1 := (nout_nn (N := 3) rfl (by omega) c1).2
        have q3 := nout_nn (N := 3) rfl (by omega) c3
        have ha : okLt 4 a := ⟨_, q3.2, q3.1⟩
        split
        · next e0 =>
          split
          · exact h
          · split
            · exact h.ins2 q1 ha ⟨fun e => by rw [e0] at e; exact absurd e (by decide), fun e => by rw [e0] at e; exact absurd e (by decide)⟩
            · exact h
        · split
          · next e5 =>
            split
            · exact h
            · next c =>
              have q := nout_nn (N := 11) rfl (by omega) c
              exact h.ins2 q1 ha ⟨fun e => by rw [e5] at e; exact absurd e (by decide), fun _ => ⟨_, q.2, q.1⟩⟩
          · next e5 =>
            split
            · exact h
            · next c =>
              have q := nout_nn (N := 3) rfl (by omega) c
              exact h.ins2 q1 ha ⟨fun _ => ⟨_, q.2, q.1⟩, fun e => absurd e e5⟩
end OKW
