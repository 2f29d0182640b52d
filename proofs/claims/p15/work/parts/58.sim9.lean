section ST
variable {b x np : Nat} {d : Int32} {v r : Vs}
theorem mRdy_u6 {a q : Nat} {z : Int32} : mRdy (u2 r 6 a z) q = u2 (mRdy r q) 6 a z := by
  unfold mRdy
  (try dsimp only)
  rw [u2_comm (k := 6) (k' := 9) (by omega), tick_u2 (k := 6) (by omega), u2_a (k := 6) (k' := 0) (by omega), u2_comm (k := 6) (k' := 10) (by omega), u2_comm (k := 6) (k' := 11) (by omega), u2_comm (k := 6) (k' := 14) (by omega)]
theorem mEndL_u6 {a : Nat} {z x : Int32} : ∀ (k q : Nat) (r : Vs), mEndL x k q (u2 r 6 a z) = u2 (mEndL x k q r) 6 a z := by
  intro k
  induction k with
  | zero => intro q r; rfl
  | succ k ih =>
    intro q r
    simp only [mEndL]
    rw [u2_oth (v := r) (k := 6) (k' := 9) (by omega), u2_oth (v := r) (k := 6) (k' := 13) (by omega)]
    by_cases c1 : r 9 q = 3
    · rw [if_pos c1, if_pos c1]
      by_cases c2 : r 13 q = x
      · rw [if_pos c2, if_pos c2, mRdy_u6, ih]
      · rw [if_neg c2, if_neg c2, ih]
    · rw [if_neg c1, if_neg c1, ih]
theorem mEnd_u6 {a p : Nat} {z x y : Int32} : mEnd (u2 r 6 a z) x p y = u2 (mEnd r x p y) 6 a z := by
  unfold mEnd
  rw [nv_u2a (by omega), u2_comm (k := 6) (k' := 9) (by omega), u2_comm (k := 6) (k' := 12) (by omega), u2_comm (k := 6) (k' := 14) (by omega), mEndL_u6]
theorem mRdy_9 {p q : Nat} (h : q ≠ p) : mRdy r p 9 q = r 9 q := by
  unfold mRdy
  (try dsimp only)
  rw [u2_oth (by omega), u2_oth (by omega), u2_oth (by omega), tick_oth (by omega), u2_n h]
theorem mRdy_9s {p : Nat} : mRdy r p 9 p = 1 := by
  unfold mRdy
  (try dsimp only)
  rw [u2_oth (by omega), u2_oth (by omega), u2_oth (by omega), tick_oth (by omega), u2_s]
theorem mEndL_9 {x : Int32} {q : Nat} : ∀ (k p : Nat) (r : Vs), r 9 q ≠ 3 → mEndL x k p r 9 q = r 9 q := by
  intro k
  induction k with
  | zero => intro p r _; rfl
  | succ k ih =>
    intro p r hq
    simp only [mEndL]
    by_cases c1 : r 9 p = 3
    · rw [if_pos c1]
      have hne : q ≠ p := fun e => hq (by rw [e]; exact c1)
      by_cases c2 : r 13 p = x
      · rw [if_pos c2, ih _ _ (by rw [mRdy_9 hne]; exact hq), mRdy_9 hne]
      · rw [if_neg c2, ih _ _ hq]
    · rw [if_neg c1, ih _ _ hq]
theorem mEnd_9s {x y : Int32} {p : Nat} : mEnd r x p y 9 p = 4 := by
  have e : u2 (u2 (u2 r 9 p 4) 12 p y) 14 p 8 9 p = 4 := by rw [u2_oth (by omega), u2_oth (by omega), u2_s]
  unfold mEnd
  rw [mEndL_9 _ _ _ (by rw [e]; decide), e]
theorem mEnd_9o {x y : Int32} {p q : Nat} (h : q ≠ p) (hq : r 9 q ≠ 3) : mEnd r x p y 9 q = r 9 q := by
  have e : u2 (u2 (u2 r 9 p 4) 12 p y) 14 p 8 9 q = r 9 q := by rw [u2_oth (by omega), u2_oth (by omega), u2_n h]
  unfold mEnd
  rw [mEndL_9 _ _ _ (by rw [e]; exact hq), e]
theorem mMk0_9 {x y : Int32} {q : Nat} (h : q ≠ nv r 0 14) : mMk0 r x y 9 q = r 9 q := by
  unfold mMk0
  (try dsimp only)
  rw [mRdy_9 h, u2_oth (by omega), u2_oth (by omega), u2_oth (by omega), u2_oth (by omega), u2_oth (by omega), u2_oth (by omega)]
theorem mTch0_9 {p a t : Nat} {op : Int32} : mTch0 r p op a t 9 = r 9 := by
  unfold mTch0
  by_cases c2 : op = 2
  · rw [if_pos c2, u2_oth (by omega)]
  · rw [if_neg c2]
    by_cases c3 : op = 3
    · rw [if_pos c3, u2_oth (by omega)]
    · rw [if_neg c3]
      by_cases c4 : r 18 t = r 6 (4 * p + 3)
      · rw [if_pos c4]; (try dsimp only); rw [u2_oth (by omega), u2_oth (by omega)]
      · rw [if_neg c4, u2_oth (by omega)]
theorem mTch_9 {p a t : Nat} {op : Int32} : mTch r p op a t 9 = r 9 := by
  unfold mTch
  (try dsimp only)
  rw [u2_oth (by omega), tick_oth (by omega), mTch0_9]
theorem Sim.setc (h : Sim b x d np v r) {i : Nat} {z : Int32} (hi : i < np) (hz : okLt 13 z) : Sim b x d np (u2 v (68 + 3 * i) 6 z) (u2 r 7 i z) := h.up (.ctr hi) (h.ok.ct hz) (h.okM.ct hz) (fun q => by omega) (fun q => by omega)
theorem Sim.np_iff (h : Sim b x d np v r) (z : Int32) : inI z (v 0 5) ↔ ¬ npP r z := by
  have e := h.D _ _ _ _ .made
  rw [e]
  constructor
  · rintro ⟨q1, q2⟩ (q | q)
    · exact q1 q
    · exact Int32.not_lt.mpr q q2
  · intro q
    exact ⟨fun p => q (Or.inl p), Classical.byContradiction fun p => q (Or.inr (Int32.not_lt.mp p))⟩
/-- the process that an instruction names -/
theorem Sim.named (h : Sim b x d np v r) {z : Int32} (c : ¬ npP r z) : z = nI (nn z) ∧ nn z < np := by
  have := nnp_nn h.okM c
  rw [h.made] at this
  exact this
theorem Sim.h15 (h : Sim b 8 d np v r) {i : Nat} (hi : i < np) (hs : r 9 i = 1 ∨ r 9 i = 3) : r 15 i = 0 := by
  have hle := h.le
  by_cases q : r 15 i = 0
  · exact q
  · rcases h.rs i hi (by omega) q with e | e <;> rcases hs with hs | hs <;> rw [hs] at e <;> exact absurd e (by decide)
/-- one waits -/
theorem Sim.wait (h : Sim b 8 d np v r) {i : Nat} {z : Int32} (hi : i < np) (hs : r 9 i = 1) : Sim b 8 d np (u2 (cLeave v i 3) (68 + 3 * i) 11 z) (u2 (u2 r 9 i 3) 13 i z) := by
  have hle := h.le
  have h15 := h.h15 hi (Or.inl hs)
  have h14 := h.pg i hi (by omega)
  rw [h.st hi, hs, if_neg (by decide)] at h14
  have h1 := h.rem hi
  have h2 := h1.up (z := 3) (.state hi) (h1.ok.fr (by omega)) (h1.okM.fr (by omega)) (fun _ => rfl) (fun q => by omega)
  have h3 := h2.upv (o := 11) (z := z) (by omega)
  have h4 := h3.upr (o := 13) (z := z) (by omega)
  unfold cLeave
  refine h4.show ?_ (fun _ => ?_) (fun _ _ => ?_) (fun _ q => ?_) (fun _ q => ?_)
  · rw [u2_oth (by omega), u2_s]; decide
  · rw [u2_oth (by omega), u2_oth (by omega), u2_a (by omega), u2_s, if_neg (by decide)]; exact h14
  · rw [u2_s, u2_s]
  · rw [u2_oth (by omega), u2_oth (by omega)] at q; exact absurd h15 q
  · rw [u2_oth (by omega), u2_oth (by omega)] at q; exact absurd h15 q
end ST
